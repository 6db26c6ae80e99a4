section MLa
variable {l : Nat → Nat → Int64} {Lw : List Nat}
theorem m_e0 {m : Nat → Nat → Int32} {k n : Nat} {most sum : Int32} (hk : k < Lw.length) (hL : Lw.length ≤ 7) : fX7_packed_111 (n + 1) 93 (nI Lw.length) most sum (nI k) (Mk m l) = fX7_packed_170 (fX7_packed_111 n) 93 (nI Lw.length) most sum (nI k) 0 (m 104 k + 1) (Mk m l) := by
  rw [fX7_packed_111, if_neg (nI_pos (by omega)), if_neg (by rw [nI_inj (by omega) (by omega)]; omega), fX7_packed_127, if_pos rfl, fX7_packed_145, if_pos rfl, M_r15, bS, a104 (by omega), bS]
theorem m_e1 {m : Nat → Nat → Int32} {k : Nat} {n most sum : Int32} {K : Nat → Int32 → Int32 → Int32 → Int32 → Mu → Option (Int32 × Mu)} (hk : k < 8) (h1 : m 104 k = -1) : fX7_packed_170 K 93 n most sum (nI k) 0 (m 104 k + 1) (Mk m l) = fX7_packed_233 K FU 93 n most sum (nI k) (nI 0) (Mk m l) := by
  rw [fX7_packed_170, if_pos rfl, M_r15, bS, a104 hk, bS, h1, if_pos (by decide)]
  rfl
theorem m_e3 {m : Nat → Nat → Int32} {k P : Nat} {n most sum : Int32} {K : Nat → Int32 → Int32 → Int32 → Int32 → Mu → Option (Int32 × Mu)} (hk : k < 8) (hP : m 95 0 = nI P) (h5 : P ≤ 5) (h1 : m 104 k = nI P) : fX7_packed_170 K 93 n most sum (nI k) 0 (m 104 k + 1) (Mk m l) = fX7_packed_233 K FU 93 n most sum (nI k) (nI (P + 1)) (Mk m l) := by
  rw [fX7_packed_170, if_pos rfl, M_r15, bS, a104 hk, bS, h1, if_neg (nI_pos (by omega)), bS, a104 hk, bS, h1, M_r2, bS, a95_0, bS, hP, if_pos (nI_le (Nat.le_refl _) (by omega)), nI_1]
/-- the ways from plot p on, at one level -/
def Cn (g : Gn) (h : Nat) (t : List Nat) (won : Nat) (tr : Nat → Nat) (p : Nat) (acc : Ac) : Ac := if p ≤ g 0 0 then Sr (g 0 0) (g 2) (g 3) t (f0 g) won (su tr h 9) (fr (sF (g 0 0) (g 2) (g 3) h t (f0 g) won tr) acc p (g 0 0 - p)) else acc
theorem Cn_s {g : Gn} {h : Nat} {t : List Nat} {won : Nat} {tr : Nat → Nat} {p : Nat} {acc : Ac} (hp : p < g 0 0) : Cn g h t won tr p acc = Cn g h t won tr (p + 1) (sF (g 0 0) (g 2) (g 3) h t (f0 g) won tr p acc) := by
  rw [Cn, Cn, if_pos (by omega), if_pos (by omega), show g 0 0 - p = (g 0 0 - (p + 1)) + 1 by omega, fr]
theorem Cn_P {g : Gn} {h : Nat} {t : List Nat} {won : Nat} {tr : Nat → Nat} {acc : Ac} : Cn g h t won tr (g 0 0) acc = Sr (g 0 0) (g 2) (g 3) t (f0 g) won (su tr h 9) acc := by
  rw [Cn, if_pos (Nat.le_refl _), Nat.sub_self, fr]
theorem Cn_0 {g : Gn} {h : Nat} {t : List Nat} {won : Nat} {tr : Nat → Nat} {acc : Ac} : Cn g h t won tr 0 acc = Sr (g 0 0) (g 2) (g 3) (h :: t) (f0 g) won tr acc := by
  rw [Cn, if_pos (Nat.zero_le _), Nat.sub_zero, Sr_c]
theorem Cn_no {g : Gn} {h : Nat} {t : List Nat} {won : Nat} {tr : Nat → Nat} {p : Nat} {acc : Ac} (hb : ((won : Int) + (g 3 h : Nat) + (sw (g 3) t : Nat)) ≤ acc.1) : Cn g h t won tr p acc = acc := by
  have hv := fun f => Vs_sw (P := g 0 0) (k := g 2) (w := g 3) (L := t) (f := f)
  rw [Cn]
  by_cases q : p ≤ g 0 0
  · have e : fr (sF (g 0 0) (g 2) (g 3) h t (f0 g) won tr) acc p (g 0 0 - p) = acc := by
      refine fr_no (fun r _ _ => ?_)
      rw [sF]
      by_cases z : pfb (f0 g r) (g 2 h) = true
      · rw [if_pos z]
        refine Sr_no ?_
        have := hv (pu (f0 g) r (pp (f0 g r) (g 2 h)))
        omega
      · rw [if_neg z]
    rw [if_pos q, e]
    refine Sr_no ?_
    have := hv (f0 g)
    omega
  · rw [if_neg q]
theorem m_core {t : List Nat} {h k won : Nat} {g : Gn} {tr : Nat → Nat} (hL : Lw.length ≤ 7) (hIH : Lok Lw l t) (hd : Lw.drop k = h :: t) (hw : Wf g) (hP0 : 0 < g 0 0) (hmem : ∀ x, x ∈ h :: t → x < g 0 1 ∧ g 4 x = 9) (hnd : (h :: t).Nodup) (htr : ∀ j, tr j = g 4 j) (hwon : won + g 3 h + sw (g 3) t ≤ 140) :
    ∀ (d p F : Nat) (acc : Ac) (m : Nat → Nat → Int32), p + d = g 0 0 + 1 → d < F → MP Lw g acc m → ∃ c m', c ≤ d * (Tn t.length + 1) ∧ (∀ n', fX7_packed_233 (fX7_packed_111 (c + n')) F 93 (nI Lw.length) (iI acc.1) (nI won) (nI k) (nI p) (Mk m l) = fX7_packed_111 n' 93 (nI Lw.length) (iI (Cn g h t won tr p acc).1) (nI won) (nI k + (-1)) (Mk m' l)) ∧ MP Lw g (Cn g h t won tr p acc) m' ∧ FM m m' ∧ ∀ j, j < k → m' 104 j = m 104 j := by
  have hP5 := hw.1.1
  have hN7 := hw.1.2.1
  obtain ⟨hg, hkn, hdt⟩ := drop_c hd
  have hh := hmem h (by simp)
  have hk7 : k < 7 := by omega
  have h7 : h < 7 := by omega
  rw [List.nodup_cons] at hnd
  intro d
  induction d with
  | zero =>
    intro p F acc m hpd hF hm
    obtain ⟨F', rfl⟩ : ∃ F', F = F' + 1 := ⟨F - 1, by omega⟩
    have hp : p = g 0 0 + 1 := by omega
    have eC : Cn g h t won tr p acc = acc := by rw [Cn, if_neg (by omega)]
    rw [eC]
    refine ⟨0, m, Nat.zero_le _, fun n' => ?_, hm, FM.rf, fun _ _ => rfl⟩
    rw [hp, Nat.zero_add, m_up hm.2.1.1 hP5]
  | succ d ih =>
    intro p F acc m hpd hF hm
    obtain ⟨F', rfl⟩ : ∃ F', F = F' + 1 := ⟨F - 1, by omega⟩
    have hm' := hm
    obtain ⟨c1, c2, c3, c4, c5, c6⟩ := hm
    have ech : m 103 k = nI h := by rw [c3 k hkn, hg]
    have ere : m 105 k = nI (g 3 h + sw (g 3) t) := by rw [c4 k (by omega), hd, sw]
    by_cases hA : p < g 0 0 ∧ ¬ fit g (g 2 h) p = true
    · have hmay : fX7_mayPut 93 (nI h) (nI p) (Mk m l) = some (0, Mk m l) := by
        rw [m_mayPut c1 c2 hw h7 hA.1, if_neg (fun z => hA.2 z.2)]
      have eC : Cn g h t won tr p acc = Cn g h t won tr (p + 1) acc := by
        rw [Cn_s hA.1, sF, if_neg (fun z => hA.2 ((f0_fit hA.1).mp (pfb_t.mp z)))]
      rw [eC]
      obtain ⟨c, m', h1, h2, h3, h4, h5⟩ := ih (p + 1) F' acc m (by omega) (by omega) hm'
      refine ⟨c, m', Nat.le_trans h1 (Nat.mul_le_mul_right _ (by omega)), fun n' => ?_, h3, h4, h5⟩
      rw [fX7_packed_233, M_r2, bS, a95_0, bS, c2.1, if_neg (nI_ge hA.1 (by omega)), M_r14, bS, a103 hk7, bS, ech, hmay, bS, if_pos rfl, nI_1]
      exact h2 n'
    · have e266 : ∀ K : Nat → Int32 → Int32 → Int32 → Int32 → Mu → Option (Int32 × Mu), fX7_packed_233 K (F' + 1) 93 (nI Lw.length) (iI acc.1) (nI won) (nI k) (nI p) (Mk m l) = fX7_packed_266 K 93 (nI Lw.length) (iI acc.1) (nI won) (nI k) (nI p) (Mk m l) := by
        intro K
        rw [fX7_packed_233, M_r2, bS, a95_0, bS, c2.1]
        by_cases z : p < g 0 0
        · have hfi : fit g (g 2 h) p = true := by
            by_cases y : fit g (g 2 h) p = true
            · exact y
            · exact absurd ⟨z, y⟩ hA
          have hmay : fX7_mayPut 93 (nI h) (nI p) (Mk m l) = some (1, Mk m l) := by
            rw [m_mayPut c1 c2 hw h7 z, if_pos ⟨hh.2, hfi⟩]
          rw [if_neg (nI_ge z (by omega)), M_r14, bS, a103 hk7, bS, ech, hmay, bS, if_neg n0]
        · rw [if_pos (nI_le (by omega) (by omega))]
      have eh : ∀ K : Nat → Int32 → Int32 → Int32 → Int32 → Mu → Option (Int32 × Mu), fX7_packed_266 K 93 (nI Lw.length) (iI acc.1) (nI won) (nI k) (nI p) (Mk m l) = (if iI acc.1 < iI ((won + (g 3 h + sw (g 3) t) : Nat) : Int) then (gR 7 93 15 (Mk m l)).bind fun x43 => (bI 8 x43 (nI k) (nI p) (Mk m l)).bind fun m45 => (gR 7 93 2 m45).bind fun x47 => (aI 8 x47 0 m45).bind fun x49 => (if x49 ≤ (nI p) then (gR 7 93 15 m45).bind fun x52 => (bI 8 x52 ((nI k) + 1) (-1) m45).bind fun m54 => K 93 (nI Lw.length) (iI acc.1) (nI won) ((nI k) + 1) m54 else (gR 7 93 14 m45).bind fun x56 => (aI 8 x56 (nI k) m45).bind fun x58 => (fX7_lays 93 x58 (nI p) m45).bind fun q60 => (gR 7 93 2 q60).bind fun x62 => (gR 7 93 14 q60).bind fun x64 => (aI 8 x64 (nI k) q60).bind fun x66 => (aI 8 x62 (9 + x66) q60).bind fun x68 => (gR 7 93 15 q60).bind fun x70 => (bI 8 x70 ((nI k) + 1) (-1) q60).bind fun m72 => K 93 (nI Lw.length) (iI acc.1) ((nI won) + x68) ((nI k) + 1) m72) else K 93 (nI Lw.length) (iI acc.1) (nI won) ((nI k) + (-1)) (Mk m l)) := by
        intro K
        rw [fX7_packed_266, M_r2, bS, a95_0, bS, c2.1, if_neg (nI_nlt (by omega) (by omega)), M_r16, bS, a105 (by omega), bS, ere, nI_add, ← iI_n]
      by_cases hB : acc.1 < ((won + (g 3 h + sw (g 3) t) : Nat) : Int)
      · have hpos : iI acc.1 < iI ((won + (g 3 h + sw (g 3) t) : Nat) : Int) := (iI_lt (by omega) (by omega) (by omega) (by omega)).mpr hB
        by_cases z : p < g 0 0
        · have hfi : fit g (g 2 h) p = true := by
            by_cases y : fit g (g 2 h) p = true
            · exact y
            · exact absurd ⟨z, y⟩ hA
          have s1 : MS (m2 m 104 k (nI p)) g := by
            rw [MS_MR, m2_ne (by decide)]
            exact c1
          obtain ⟨m1, e1, s2, f1⟩ := m_lays (l := l) s1 hw.1 h7 (show p < 9 by omega)
          have fm1 : FM m m1 := FM.s4.tr (FM_F1 f1 (by omega))
          have s3 : MS (m2 m1 104 (k + 1) (-1)) (put g h p) := by
            rw [MS_MR, m2_ne (by decide)]
            exact s2
          have fm2 : FM m (m2 m1 104 (k + 1) (-1)) := fm1.tr FM.s4
          have ep3 : put g h p 3 = g 3 := by
            funext i
            exact put_c (by decide) (by decide)
          have ep2 : put g h p 2 = g 2 := by
            funext i
            exact put_c (by decide) (by decide)
          have ep0 : ∀ i, put g h p 0 i = g 0 i := fun i => put_c (by decide) (by decide)
          have mp2 : MP Lw (put g h p) acc (m2 m1 104 (k + 1) (-1)) := MP_nx hm' s3 Sm_put ep3 fm2 (by rw [m2_ne (by decide), f1 102 (by decide), m2_ne (by decide)])
          obtain ⟨ca, m3, ha1, ha2, ha3, ha4, ha5⟩ := hIH (k + 1) (won + g 3 h) (put g h p) (su tr h p) acc _ hdt (by omega) (Wf_put hw hh.1 z hh.2) (by rw [ep0]; exact hP0) (fun x hx => by
            have hx' := hmem x (List.mem_cons_of_mem _ hx)
            rw [ep0, put_4, if_neg (show ¬ x = h from fun e => hnd.1 (by rw [← e]; exact hx))]
            exact hx') hnd.2 (fun j => by
            rw [su, put_4]
            by_cases y : j = h
            · rw [if_pos y, if_pos y]
            · rw [if_neg y, if_neg y]
              exact htr j) (by rw [ep3]; omega) mp2 m2_at
          rw [ep0, ep2, ep3, f0_put hw hh.1 z hh.2 hfi] at ha2 ha3
          have esF : sF (g 0 0) (g 2) (g 3) h t (f0 g) won tr p acc = Sr (g 0 0) (g 2) (g 3) t (pu (f0 g) p (pp (f0 g p) (g 2 h))) (won + g 3 h) (su tr h p) acc := by
            rw [sF, if_pos (pfb_t.mpr ((f0_fit z).mpr hfi))]
          rw [← esF] at ha2 ha3
          have e104 : m3 104 k = nI p := by rw [ha5 k (by omega), m2_nk (by omega), f1 104 (by decide), m2_at]
          have e103 : m3 103 k = nI h := by rw [ha3.2.2.1 k hkn, hg]
          obtain ⟨ac, hac⟩ : ∃ ac, ac = sF (g 0 0) (g 2) (g 3) h t (f0 g) won tr p acc := ⟨_, rfl⟩
          rw [← hac] at ha2 ha3
          have key : ∃ m4, (∀ (K : Nat → Int32 → Int32 → Int32 → Int32 → Mu → Option (Int32 × Mu)) (n most : Int32), fX7_packed_170 K 93 n most (nI (won + g 3 h)) (nI k) 0 (m3 104 k + 1) (Mk m3 l) = fX7_packed_233 K FU 93 n most (nI won) (nI k) (nI (p + 1)) (Mk m4 l)) ∧ MS m4 g ∧ F1 97 m3 m4 := by
            obtain ⟨m5, e5, s5, f5⟩ := m_takes (l := l) ha3.1 (Wf_put hw hh.1 z hh.2).1 h7 (by rw [put_4, if_pos rfl]; omega)
            refine ⟨m5, fun K n most => ?_, MS_back hw h7 hh.2 (by omega) s5, f5⟩
            have eP : m3 95 0 = nI (g 0 0) := by rw [ha3.2.1.1, ep0]
            have ew : m5 95 (9 + h) = nI (g 3 h) := by rw [f5 95 (by decide), (ha3.2.1.2.2.1 h h7).2, ep3]
            rw [fX7_packed_170, if_pos rfl, M_r15, bS, a104 (by omega), bS, e104, if_neg (nI_pos (by omega)), bS, a104 (by omega), bS, e104, M_r2, bS, a95_0, bS, eP, if_neg (nI_ge z (by omega)), M_r14, bS, a103 hk7, bS, e103, e5, bS]
            simp only [M_r2, bS, M_r14, a103 hk7, f5 103 (show 103 ≠ 97 by decide), e103, ad9, a95 (show 9 + h < 56 by omega), ew, nI_1]
            rw [nI_sub (Nat.le_add_left _ _), Nat.add_sub_cancel]
          obtain ⟨m4, k1, k2, k3⟩ := key
          have mp4 : MP Lw g ac m4 := MP_nx ha3 k2 Sm_put.sy ep3.symm (FM_F1 k3 (by omega)) (k3 102 (by decide))
          obtain ⟨cb, m6, hc1, hc2, hc3, hc4, hc5⟩ := ih (p + 1) FU ac m4 (by omega) (by have := FU_big; omega) mp4
          rw [Cn_s z, ← hac]
          refine ⟨ca + (cb + 1), m6, ?_, fun n' => ?_, hc3, fm2.tr (ha4.tr ((FM_F1 k3 (by omega)).tr hc4)), fun j hj => ?_⟩
          · rw [Nat.succ_mul]
            omega
          · rw [e266, eh, if_pos hpos, M_r15, bS, b104 (by omega), bS, M_r2, bS, a95_0, bS, m2_ne (by decide), c2.1, if_neg (nI_ge z (by omega)), M_r14, bS, a103 hk7, bS, m2_ne (by decide), ech, e1, bS]
            have f103 : m1 103 k = nI h := by rw [f1 103 (by decide), m2_ne (by decide), ech]
            have f95 : m1 95 (9 + h) = nI (g 3 h) := by rw [f1 95 (by decide), m2_ne (by decide), (c2.2.2.1 h h7).2]
            rw [M_r2, bS, M_r14, bS, a103 hk7, bS, f103, ad9, a95 (by omega), bS, f95, M_r15, bS, nI_1, b104 (by omega), bS, nI_add, show ca + (cb + 1) + n' = ca + ((cb + n') + 1) by omega, ha2, nI_m1, nI_pred, m_e0 hkn hL, k1, hc2]
          · rw [hc5 j hj, k3 104 (by decide), ha5 j (by omega), m2_nk (by omega), f1 104 (by decide), m2_nk (by omega)]
        · have hpP : p = g 0 0 := by omega
          subst hpP
          have fm2 : FM m (m2 (m2 m 104 k (nI (g 0 0))) 104 (k + 1) (-1)) := FM.s4.tr FM.s4
          have s3 : MS (m2 (m2 m 104 k (nI (g 0 0))) 104 (k + 1) (-1)) g := by
            rw [MS_MR, m2_ne (by decide), m2_ne (by decide)]
            exact c1
          have mp2 : MP Lw g acc (m2 (m2 m 104 k (nI (g 0 0))) 104 (k + 1) (-1)) := MP_nx hm' s3 Sm.rf rfl fm2 (by rw [m2_ne (by decide), m2_ne (by decide)])
          obtain ⟨ca, m3, ha1, ha2, ha3, ha4, ha5⟩ := hIH (k + 1) won g (su tr h 9) acc _ hdt (by omega) hw hP0 (fun x hx => hmem x (List.mem_cons_of_mem _ hx)) hnd.2 (fun j => by
            rw [su]
            by_cases y : j = h
            · rw [if_pos y, y, hh.2]
            · rw [if_neg y]
              exact htr j) (by omega) mp2 m2_at
          have e104 : m3 104 k = nI (g 0 0) := by rw [ha5 k (by omega), m2_nk (by omega), m2_at]
          rw [Cn_P]
          refine ⟨ca + 1, m3, ?_, fun n' => ?_, ha3, fm2.tr ha4, fun j hj => ?_⟩
          · rw [Nat.succ_mul]
            omega
          · rw [e266, eh, if_pos hpos, M_r15, bS, b104 (by omega), bS, M_r2, bS, a95_0, bS, m2_ne (by decide), c2.1, if_pos (nI_le (Nat.le_refl _) (by omega)), M_r15, bS, nI_1, b104 (by omega), bS, show ca + 1 + n' = ca + (n' + 1) by omega, ha2, nI_m1, nI_pred, m_e0 hkn hL, m_e3 (by omega) ha3.2.1.1 hP5 e104, show FU = 999999999 + 1 from rfl, m_up ha3.2.1.1 hP5, nI_m1]
          · rw [ha5 j (by omega), m2_nk (by omega), m2_nk (by omega)]
      · have hneg : ¬ iI acc.1 < iI ((won + (g 3 h + sw (g 3) t) : Nat) : Int) := fun y => hB ((iI_lt (by omega) (by omega) (by omega) (by omega)).mp y)
        rw [Cn_no (by omega)]
        refine ⟨0, m, Nat.zero_le _, fun n' => ?_, hm', FM.rf, fun _ _ => rfl⟩
        rw [e266, eh, if_neg hneg, Nat.zero_add]
theorem m_level (hL : Lw.length ≤ 7) : ∀ t, Lok Lw l t
  | [] => m_leaf hL
  | h :: t => by
    intro k won g tr acc m hd hk hw hP0 hmem hnd htr hwon hm h104
    obtain ⟨hg, hkn, hdt⟩ := drop_c hd
    have hP5 := hw.1.1
    rw [sw] at hwon
    obtain ⟨c, m', h1, h2, h3, h4, h5⟩ := m_core (won := won) hL (m_level hL t) hd hw hP0 hmem hnd htr (by omega) (g 0 0 + 1) 0 FU acc m (by omega) (by have := FU_big; omega) hm
    rw [Cn_0] at h2 h3
    refine ⟨c + 1, m', ?_, fun n' => ?_, h3, h4, h5⟩
    · rw [List.length_cons, Tn]
      have : (g 0 0 + 1) * (Tn t.length + 1) ≤ 6 * (Tn t.length + 1) := Nat.mul_le_mul_right _ (by omega)
      omega
    · rw [show c + 1 + n' = (c + n') + 1 by omega, m_e0 hkn hL, m_e1 (by omega) h104, h2]
end MLa
