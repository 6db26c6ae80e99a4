theorem m_gcd {v4 v5 v6 : Int32} {μ : Mu} : ∀ (b a n : Nat), b < n → a < 2 ^ 31 → b < 2 ^ 31 → fX7_likely_202 n v4 v5 v6 (nI a) (nI b) μ = (if v4 = 0 then (dvd v5 (nI (Nat.gcd a b))).bind fun x26 => some (x26, μ) else (dvd v6 (nI (Nat.gcd a b))).bind fun x24 => some (x24, μ)) := by
  intro b
  induction b using Nat.strongRecOn with
  | ind b ih =>
    intro a n h1 h2 h3
    obtain ⟨n', rfl⟩ : ∃ n', n = n' + 1 := ⟨n - 1, by omega⟩
    rw [fX7_likely_202]
    by_cases q : b = 0
    · rw [q, if_pos (by decide), Nat.gcd_zero_right]
    · have hr : a % b < b := Nat.mod_lt _ (by omega)
      rw [if_neg (nI_nle (by omega) (by omega)), rmd_nI (by omega) (by omega) (by omega), bS, gcd_st]
      exact ih (a % b) hr b n' (by omega) h3 (by omega)
theorem sh9 : ∀ n, n < 9 → (1 : Int32) <<< (nI n &&& 31) = nI (2 ^ n) := by decide +kernel
theorem bit8 : ∀ s, s < 256 → ∀ k, k < 8 → (decide (((nI s >>> (nI k &&& 31)) &&& 1) = 1)) = (decide (s / 2 ^ k % 2 = 1)) := by decide +kernel
section MLk
variable {m : Nat → Nat → Int32} {l : Nat → Nat → Int64} {g : Gn}
theorem m_way {h n x set : Nat} {v4 v5 v6 : Int32} {K : Nat → Int32 → Int32 → Int32 → Int32 → Int32 → Int32 → Int32 → Mu → Option (Int32 × Mu)} (hw : Wf g) (hP : 0 < g 0 0) (h7 : h < 7) (hn : n ≤ 8) (hx : x ≤ 10) (hset : set < 2 ^ n) (hy : g 0 2 + n ≤ 99999) (hs : MS m g) (ht : MT 95 m g) (hr : MR (m 101) g) : ∃ m', fX7_likely_105 K FU 93 (nI h) (nI n) (nI x) v4 v5 v6 (nI set) 1 0 (Mk m l) = K 93 (nI h) (nI n) (nI x) v4 (v5 + nI (wt x h n set g)) v6 (nI (set + 1)) (Mk m' l) ∧ MS m' g ∧ F1 97 m m' := by
  have hP5 := hw.1.1
  have hs8 : set < 256 := by
    have := Nat.pow_le_pow_right (n := 2) (by decide) hn
    omega
  have e10 : (10 : Int32) - nI x = nI (10 - x) := nI_sub (a := 10) hx
  refine lpR (fun n' j (s : Int32 × (Nat → Nat → Int32)) => fX7_likely_105 K n' 93 (nI h) (nI n) (nI x) v4 v5 v6 (nI set) s.1 (nI j) (Mk s.2 l)) (fun j s => ∃ its gk, s.1 = nI its ∧ its * wt x h (n - j) (set / 2 ^ j) gk = wt x h n set g ∧ MS s.2 gk ∧ Wf gk ∧ Sm g gk ∧ gk 0 2 = g 0 2 + j ∧ F1 97 m s.2) (fun o => ∃ m', o = K 93 (nI h) (nI n) (nI x) v4 (v5 + nI (wt x h n set g)) v6 (nI (set + 1)) (Mk m' l) ∧ MS m' g ∧ F1 97 m m') n ?_ ?_ FU 0 (1, m) (by omega) (by have := FU_big; omega) ⟨1, g, rfl, by rw [Nat.sub_zero, Nat.pow_zero, Nat.div_one, Nat.one_mul], hs, hw, Sm.rf, rfl, F1.rf⟩
  · intro n' j s hj hI
    left
    obtain ⟨its, gk, i1, i2, i3, i4, i5, i6, i7⟩ := hI
    have hb := bit8 set hs8 j (by omega)
    have hPk : 0 < gk 0 0 := by rw [i5.1]; exact hP
    obtain ⟨m', e, s', f'⟩ := m_passes (l := l) i3 (MT_S (MT_F1 ht i7 (by decide)) i5) i4 hPk (set / 2 ^ j % 2 == 1)
    have estep : its * (if set / 2 ^ j % 2 = 1 then x else 10 - x) * wt x h (n - (j + 1)) (set / 2 ^ (j + 1)) (yb (set / 2 ^ j % 2 == 1) gk) = wt x h n set g := by
      rw [← i2, show n - j = (n - (j + 1)) + 1 by omega, wt, Nat.pow_succ, ← Nat.div_div_eq_div_mul, Nat.mul_assoc]
    refine ⟨(nI (its * (if set / 2 ^ j % 2 = 1 then x else 10 - x)), m'), ⟨_, yb (set / 2 ^ j % 2 == 1) gk, rfl, estep, s', Wf_yb i4 hPk (by omega), i5.tr Sm_yb, by rw [yb_y, i6]; omega, i7.tr f'⟩, ?_⟩
    rw [fX7_likely_105, if_neg (nI_ge hj (by omega))]
    by_cases q : set / 2 ^ j % 2 = 1
    · have qb : ((nI set >>> (nI j &&& 31)) &&& 1) = 1 := by
        rw [decide_eq_true q] at hb
        exact of_decide_eq_true hb
      rw [show (set / 2 ^ j % 2 == 1) = true by simp [q], if_pos rfl] at e
      rw [if_pos qb, fX7_likely_127, if_neg n0, fX7_likely_144, e, bS, i1, nI_mul, nI_1, if_pos q]
    · have qb : ¬ ((nI set >>> (nI j &&& 31)) &&& 1) = 1 := by
        rw [decide_eq_false q] at hb
        exact of_decide_eq_false hb
      rw [show (set / 2 ^ j % 2 == 1) = false by simp [q], if_neg (by decide)] at e
      rw [if_neg qb, fX7_likely_127, if_pos rfl, fX7_likely_144, e, bS, i1, e10, nI_mul, nI_1, if_neg q]
  · intro n' s hI
    obtain ⟨its, gk, i1, i2, i3, i4, i5, i6, i7⟩ := hI
    obtain ⟨m', e, c'⟩ := m_lets (m := s.2) (l := l)
    have hr' : MR (s.2 101) g := by
      rw [i7 101 (by decide)]
      exact hr
    refine ⟨m', ?_, MS_lets hr' hP5 c', i7.tr c'.2⟩
    rw [Nat.sub_self, wt] at i2
    rw [fX7_likely_105, if_pos (nI_le (Nat.le_refl _) (by omega)), M_r4, bS, ad7, a97 (by omega), bS, (i3.2.2.2 h h7).1, ← i2]
    by_cases q : gk 4 h = 9
    · rw [if_pos ((plM_1 (pl_le i4.1 h7)).mpr q), e, bS, nI_1, if_pos q, Nat.mul_zero]
      rfl
    · rw [if_neg (fun z => q ((plM_1 (pl_le i4.1 h7)).mp z)), e, bS, nI_1, if_neg q, Nat.mul_one, i1]
theorem m_sets {h n x : Nat} {v4 v6 : Int32} (hw : Wf g) (hP : 0 < g 0 0) (h7 : h < 7) (hn : n ≤ 8) (hx : x ≤ 10) (hy : g 0 2 + n ≤ 99999) (hs : MS m g) (ht : MT 95 m g) (hr : MR (m 101) g) : ∃ m', fX7_likely_91 FU 93 (nI h) (nI n) (nI x) v4 0 v6 0 (Mk m l) = fX7_likely_202 FU v4 (nI (Aw x h n g)) v6 (nI (Aw x h n g)) v6 (Mk m' l) ∧ MS m' g ∧ F1 97 m m' := by
  have hp := Nat.pow_le_pow_right (n := 2) (by decide) hn
  refine lpR (fun n' j (s : Int32 × (Nat → Nat → Int32)) => fX7_likely_91 n' 93 (nI h) (nI n) (nI x) v4 s.1 v6 (nI j) (Mk s.2 l)) (fun j s => s.1 = nI (sm (fun s' => wt x h n s' g) j) ∧ MS s.2 g ∧ F1 97 m s.2) (fun o => ∃ m', o = fX7_likely_202 FU v4 (nI (Aw x h n g)) v6 (nI (Aw x h n g)) v6 (Mk m' l) ∧ MS m' g ∧ F1 97 m m') (2 ^ n) ?_ ?_ FU 0 (0, m) (Nat.zero_le _) (by have := FU_big; omega) ⟨rfl, hs, F1.rf⟩
  · intro n' j s hj hI
    left
    obtain ⟨i1, i2, i3⟩ := hI
    obtain ⟨m', e, s', f'⟩ := m_way (l := l) (v4 := v4) (v5 := s.1) (v6 := v6) (K := fX7_likely_91 n') hw hP h7 hn hx hj hy i2 (MT_F1 ht i3 (by decide)) (by rw [i3 101 (by decide)]; exact hr)
    refine ⟨(nI (sm (fun s' => wt x h n s' g) (j + 1)), m'), ⟨rfl, s', i3.tr f'⟩, ?_⟩
    rw [fX7_likely_91, sh9 n (by omega), if_neg (nI_ge hj (by omega)), e, i1, nI_add]
    rfl
  · intro n' s hI
    obtain ⟨i1, i2, i3⟩ := hI
    refine ⟨s.2, ?_, i2, i3⟩
    rw [fX7_likely_91, sh9 n (by omega), if_pos (nI_le (Nat.le_refl _) (by omega)), i1, wt_sm]
theorem m_tens {h n x : Nat} {v4 : Int32} (hn : n ≤ 8) : fX7_likely_69 FU 93 (nI h) (nI n) (nI x) v4 0 1 0 (Mk m l) = fX7_likely_91 FU 93 (nI h) (nI n) (nI x) v4 0 (nI (10 ^ n)) 0 (Mk m l) := by
  refine lpR (fun n' j (s : Int32) => fX7_likely_69 n' 93 (nI h) (nI n) (nI x) v4 0 s (nI j) (Mk m l)) (fun j s => s = nI (10 ^ j)) (fun o => o = fX7_likely_91 FU 93 (nI h) (nI n) (nI x) v4 0 (nI (10 ^ n)) 0 (Mk m l)) n ?_ ?_ FU 0 1 (by omega) (by have := FU_big; omega) rfl
  · intro n' j s hj hI
    left
    refine ⟨_, rfl, ?_⟩
    rw [fX7_likely_69, if_neg (nI_ge hj (by omega)), hI, show (10 : Int32) = nI 10 from rfl, nI_mul, nI_1, Nat.pow_succ]
  · intro n' s hI
    rw [fX7_likely_69, if_pos (nI_le (Nat.le_refl _) (by omega)), hI]
end MLk
/-- the same in lowest terms -/
theorem low {K a b : Nat} (hK : 0 < K) : K * a / Nat.gcd (K * a) (K * b) = a / Nat.gcd b a ∧ K * b / Nat.gcd (K * a) (K * b) = b / Nat.gcd b a := by
  rw [Nat.gcd_mul_left, Nat.gcd_comm a b, Nat.mul_div_mul_left _ _ hK, Nat.mul_div_mul_left _ _ hK]
  exact ⟨rfl, rfl⟩
theorem op_likely (x y w p : Int32) : Op (fX6_likely 0 x y w p) (fX7_likely 93 x y w p) := by
  refine Op_q (fun z hz => ?_)
  have hw := hz.1.1
  have hy := hz.1.2.2.2
  have hN7 := hw.1.2.1
  have hP5 := hw.1.1
  have hP0 := hz.1.2.1
  by_cases q1 : x < 0 ∨ nI (zg z 0 1) ≤ x
  · refine ⟨-1, C6_p (fun m l hc => ?_), C7_p (fun m l hc => ?_)⟩
    · rw [fX6_likely, grd_t X_o, X_r1, bS, c_hasHour0 isG_4 hc.1 hw.1 q1, bS, if_pos rfl]
    · rw [fX7_likely, grd_t M_o, m_isHour hc.1.1 hw.1, bS, if_pos q1, if_pos rfl]
  obtain ⟨h, hh, rfl⟩ := inh (by omega) q1
  by_cases q2 : y < 0 ∨ 8 < y
  · refine ⟨-1, C6_p (fun m l hc => ?_), C7_p (fun m l hc => ?_)⟩
    · rw [fX6_likely, grd_t X_o, X_r1, bS, c_hasHour isG_4 hc.1 hw.1 hh, bS, if_neg n0, c_within, bS, if_pos q2, if_pos rfl]
    · rw [fX7_likely, grd_t M_o, m_isHour hc.1.1 hw.1, bS, if_neg q1, if_neg n0, m_in, bS, if_pos q2, if_pos rfl]
  obtain ⟨n, _, hn, rfl⟩ := inr (a := 0) (b := 8) (by decide) (by decide) q2
  by_cases q3 : w < 0 ∨ 10 < w
  · refine ⟨-1, C6_p (fun m l hc => ?_), C7_p (fun m l hc => ?_)⟩
    · rw [fX6_likely, grd_t X_o, X_r1, bS, c_hasHour isG_4 hc.1 hw.1 hh, bS, if_neg n0, c_within, bS, if_neg q2, if_neg n0, c_within, bS, if_pos q3, if_pos rfl]
    · rw [fX7_likely, grd_t M_o, m_isHour hc.1.1 hw.1, bS, if_neg q1, if_neg n0, m_in, bS, if_neg q2, if_neg n0, m_in, bS, if_pos q3, if_pos rfl]
  obtain ⟨c, _, hc10, rfl⟩ := inr (a := 0) (b := 10) (by decide) (by decide) q3
  by_cases q4 : p < 0 ∨ 1 < p
  · refine ⟨-1, C6_p (fun m l hc => ?_), C7_p (fun m l hc => ?_)⟩
    · rw [fX6_likely, grd_t X_o, X_r1, bS, c_hasHour isG_4 hc.1 hw.1 hh, bS, if_neg n0, c_within, bS, if_neg q2, if_neg n0, c_within, bS, if_neg q3, if_neg n0, c_within, bS, if_pos q4, if_pos rfl]
    · rw [fX7_likely, grd_t M_o, m_isHour hc.1.1 hw.1, bS, if_neg q1, if_neg n0, m_in, bS, if_neg q2, if_neg n0, m_in, bS, if_neg q3, if_neg n0, m_in, bS, if_pos q4, if_pos rfl]
  obtain ⟨v, _, hv, rfl⟩ := inr (a := 0) (b := 1) (by decide) (by decide) q4
  have h7 : h < 7 := by omega
  by_cases q9 : zg z 4 h = 9
  · refine ⟨-2, C6_p (fun m l hc => ?_), C7_p (fun m l hc => ?_)⟩
    · rw [fX6_likely, grd_t X_o, X_r1, bS, c_hasHour isG_4 hc.1 hw.1 hh, bS, if_neg n0, c_within, bS, if_neg q2, if_neg n0, c_within, bS, if_neg q3, if_neg n0, c_within, bS, if_neg q4, if_neg n0, X_r1, bS, c_lies isG_4 hc.1 hw.1 hh, bS, if_pos q9, if_pos rfl]
    · rw [fX7_likely, grd_t M_o, m_isHour hc.1.1 hw.1, bS, if_neg q1, if_neg n0, m_in, bS, if_neg q2, if_neg n0, m_in, bS, if_neg q3, if_neg n0, m_in, bS, if_neg q4, if_neg n0, M_r4, bS, ad7, a97 (by omega), bS, (hc.1.2.2.2.2 h h7).1, if_pos ((plM_1 (pl_le hw.1 h7)).mpr q9)]
  have hpl := (hw.1.2.2.2.2 h h7).2.2
  obtain ⟨vv, hvv⟩ : ∃ vv, vv = vi (zg z 0 0) (zg z 4 h) (zg z 0 2) n := ⟨_, rfl⟩
  have hvn : vv ≤ n := by rw [hvv]; exact vi_le
  obtain ⟨B, hB8, hBN, hBA⟩ : ∃ B, B ≤ 8 ∧ (∀ m l, CI z m l → fX0_throwsBorneBy 4 (nI h) (Mk m l) = some (nI B, Mk m l)) ∧ Aw c h n (zg z) = 10 ^ (n - vv) * St c vv B := by
    by_cases hnl : Nl (zg z) h
    · refine ⟨8, Nat.le_refl _, fun m l hc => ?_, ?_⟩
      · rcases c_borne isG_4 hc.1 hw.1 hh q9 with e | e
        · exact e.2
        · exact absurd (Nl_Al hnl e.1) id
      · rw [Aw_N hc10 h7 hw hP0 (by omega) hnl, St_all hc10 (by omega), ← Nat.pow_add, Nat.sub_add_cancel hvn]
    · have hal : Al (zg z) h (ct (ab (zg z) h) 7) := by
        refine ⟨q9, rfl, fun i hi hz => ?_⟩
        by_cases e : lz (zg z 2 i) = true
        · exact e
        · exact absurd ⟨q9, i, hi, hz, by simpa using e⟩ hnl
      refine ⟨ct (ab (zg z) h) 7, by have := ct_le (ab (zg z) h) 7; omega, fun m l hc => ?_, ?_⟩
      · rcases c_borne isG_4 hc.1 hw.1 hh q9 with e | e
        · exact absurd e.1 hnl
        · exact e.2
      · rw [hvv]
        exact Aw_A hc10 h7 hw hP0 (by omega) hal
  have pK : 0 < 10 ^ (n - vv) := Nat.pow_pos (by decide)
  have en : 10 ^ n = 10 ^ (n - vv) * 10 ^ vv := by rw [← Nat.pow_add, Nat.sub_add_cancel hvn]
  have hlow := low (a := St c vv B) (b := 10 ^ vv) pK
  have p8 : 10 ^ n ≤ 100000000 := by
    have := Nat.pow_le_pow_right (n := 10) (by decide) hn
    omega
  have p0 : 0 < 10 ^ n := Nat.pow_pos (by decide)
  have hA : Aw c h n (zg z) ≤ 10 ^ n := by
    rw [hBA, en]
    exact Nat.mul_le_mul_left _ (St_le hc10)
  refine ⟨if v = 0 then nI (St c vv B / Nat.gcd (10 ^ vv) (St c vv B)) else nI (10 ^ vv / Nat.gcd (10 ^ vv) (St c vv B)), C6_q (fun m l hc => ?_), C7_q (fun m l hc => ?_)⟩
  · obtain ⟨m1, e1, r1, r2, f1⟩ := c_reckon (m := m) (l := l) (v := vv) hc10 (show vv ≤ 8 by omega) hB8
    refine ⟨m1, l, ?_, fun c' hc' => f1 c' (by omega) (by omega), FQl.rf⟩
    have ev := c_visits (n := n) isG_4 hc.1 hw.1 hP0 (show zg z 4 h < 9 by omega) hn (by omega)
    rw [← hvv] at ev
    have ep : plI (zg z 4 h) = nI (zg z 4 h) := by rw [plI, if_neg q9]
    rw [fX6_likely, grd_t X_o, X_r1, bS, c_hasHour isG_4 hc.1 hw.1 hh, bS, if_neg n0, c_within, bS, if_neg q2, if_neg n0, c_within, bS, if_neg q3, if_neg n0, c_within, bS, if_neg q4, if_neg n0, X_r1, bS, c_lies isG_4 hc.1 hw.1 hh, bS, if_neg q9, if_neg n0]
    simp only [X_r7, X_r1, bS, c_placeOf isG_4 hc.1 hw.1 hh, ep, ev, hBN m l hc, e1, O_gI, r1, r2]
    have : v = 0 ∨ v = 1 := by omega
    rcases this with rfl | rfl
    · rw [if_pos (show nI 0 = 0 from rfl), if_pos rfl]
    · rw [if_neg (show ¬ nI 1 = 0 by decide), if_neg (by decide)]
  · obtain ⟨m1, e1, c1⟩ := m_looks (m := m) (l := l)
    have l1 := MR_looks hc.1.2 hP5 c1
    have t1 := MT_F1 hc.1.1 c1.2 (by decide)
    obtain ⟨m2', e2, s2, f2⟩ := m_sets (l := l) (v4 := nI v) (v6 := nI (10 ^ n)) hw hP0 h7 hn hc10 (by omega) l1.2 t1 l1.1
    refine ⟨m2', ?_, (FN_F1 c1.2 (by omega)).tr (FN_F1 f2 (by omega)), MT_F1 t1 f2 (by decide), s2⟩
    have gp : 0 < Nat.gcd (Aw c h n (zg z)) (10 ^ n) := Nat.gcd_pos_of_pos_right _ p0
    have gl : Nat.gcd (Aw c h n (zg z)) (10 ^ n) ≤ 10 ^ n := Nat.gcd_le_right _ p0
    rw [fX7_likely, grd_t M_o, m_isHour hc.1.1 hw.1, bS, if_neg q1, if_neg n0, m_in, bS, if_neg q2, if_neg n0, m_in, bS, if_neg q3, if_neg n0, m_in, bS, if_neg q4, if_neg n0, M_r4, bS, ad7, a97 (by omega), bS, (hc.1.2.2.2.2 h h7).1, if_neg (fun z => q9 ((plM_1 (pl_le hw.1 h7)).mp z)), e1, bS, m_tens hn, e2, m_gcd _ _ _ (by have := FU_big; omega) (by omega) (by omega), dvd_nI (by omega) gp (by omega), dvd_nI (by omega) gp (by omega), hBA, en, hlow.1, hlow.2, bS, bS]
    have : v = 0 ∨ v = 1 := by omega
    rcases this with rfl | rfl
    · rw [if_pos (show nI 0 = 0 from rfl), if_pos rfl]
    · rw [if_neg (show ¬ nI 1 = 0 by decide), if_neg (by decide)]
