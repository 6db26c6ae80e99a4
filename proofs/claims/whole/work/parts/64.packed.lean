theorem drop_l : ∀ {L : List Nat} {c : Nat}, c < L.length → L.drop c = L.getD c 0 :: L.drop (c + 1)
  | [], c, h => absurd h (by simp)
  | x :: L, 0, _ => rfl
  | x :: L, c + 1, h => by
    rw [List.drop_succ_cons, List.getD_cons_succ, List.drop_succ_cons]
    exact drop_l (by rw [List.length_cons] at h; omega)
section PMa
variable {m : Nat → Nat → Int32} {l : Nat → Nat → Int64} {g : Gn}
def Vb (g : Gn) : Nat := Vs (g 0 0) (g 2) (g 3) (wq g 0 (g 0 1)) (f0 g)
theorem Bst_le {bar x : Int} : (Bst g bar).1 ≤ x ↔ bar ≤ x ∧ (Vb g : Int) ≤ x := by
  rw [Bst, Sr_le, Vb]
  constructor
  · rintro ⟨h1, h2⟩
    exact ⟨h1, by omega⟩
  · rintro ⟨h1, h2⟩
    exact ⟨h1, by omega⟩
theorem Bst_V : (Bst g (-1)).1 = (Vb g : Int) := by
  have h1 := (Bst_le (g := g) (bar := -1) (x := (Vb g : Int))).mpr ⟨by omega, Int.le_refl _⟩
  have h2 := ((Bst_le (g := g) (bar := -1)).mp (Int.le_refl _)).2
  omega
theorem Vb_le (hw : Wb g) : Vb g ≤ 140 := by
  have h7 := hw.2.1
  have h1 := Vs_sw (P := g 0 0) (k := g 2) (w := g 3) (L := wq g 0 (g 0 1)) (f := f0 g)
  have h2 := sw_le (w := g 3) (g := g) (fun i hi => (hw.2.2.2.2 i hi).2.1) (d := g 0 1) (h := 0) (by omega)
  rw [Vb]
  omega
theorem fr_p {α : Type} {F : Nat → α → α} {Q : α → Prop} (hF : ∀ p a, Q a → Q (F p a)) : ∀ {d j : Nat} {a : α}, Q a → Q (fr F a j d)
  | 0, _, _, h => h
  | d + 1, j, a, h => by
    rw [fr]
    exact fr_p hF (hF j a h)
theorem Sr_9 {P : Nat} {k w : Nat → Nat} (hP : P ≤ 9) {j : Nat} : ∀ {L : List Nat} {f : Pls} {won : Nat} {tr : Nat → Nat} {a : Ac}, tr j ≤ 9 → a.2 j ≤ 9 → (Sr P k w L f won tr a).2 j ≤ 9
  | [], f, won, tr, a, h1, h2 => by
    rw [Sr]
    split
    · exact h1
    · exact h2
  | h :: t, f, won, tr, a, h1, h2 => by
    have hs : ∀ p, p ≤ 9 → su tr h p j ≤ 9 := by
      intro p hp
      rw [su]
      split
      · exact hp
      · exact h1
    rw [Sr_c]
    refine Sr_9 hP (hs 9 (Nat.le_refl _)) ?_
    have : ∀ (d i : Nat) (b : Ac), i + d ≤ P → b.2 j ≤ 9 → (fr (sF P k w h t f won tr) b i d).2 j ≤ 9 := by
      intro d
      induction d with
      | zero => exact fun i b _ h => h
      | succ d ih =>
        intro i b hi hb
        rw [fr]
        refine ih (i + 1) _ (by omega) ?_
        rw [sF]
        split
        · exact Sr_9 hP (hs i (by omega)) hb
        · exact hb
    exact this P 0 a (by omega) h2
theorem Bst_9 (hw : Wb g) {h : Nat} (hh : h < 7) : (Bst g (-1)).2 h ≤ 9 := by
  have := hw.1
  rw [Bst]
  exact Sr_9 (by omega) (pl_le hw hh) (Nat.zero_le _)
theorem m_packed (hs : MS m g) (ht : MT 95 m g) (hw : Wf g) (hP0 : 0 < g 0 0) : ∃ m', fX7_packed 93 (Mk m l) = some (iI (Bst g (-1)).1, Mk m' l) ∧ FN m m' ∧ MT 95 m' g ∧ MS m' g ∧ ∀ h, h < g 0 1 → m' 102 h = plM ((Bst g (-1)).2 h) := by
  have hN7 := hw.1.2.1
  have hP5 := hw.1.1
  obtain ⟨Lw, hLw⟩ : ∃ Lw, Lw = wq g 0 (g 0 1) := ⟨_, rfl⟩
  have hL : Lw.length ≤ 7 := by
    have := wq_len (g := g) (d := g 0 1) (h := 0)
    rw [hLw]
    omega
  have hmem : ∀ h, h ∈ Lw → h < g 0 1 ∧ g 4 h = 9 := by
    intro h hh
    rw [hLw] at hh
    have := wq_mem hh
    exact ⟨by omega, this.2.2⟩
  have hgd : ∀ c, c < Lw.length → Lw.getD c 0 < g 0 1 := by
    intro c hc
    have e := drop_l hc
    have : Lw.getD c 0 ∈ Lw := by
      refine List.mem_of_mem_drop (i := c) ?_
      rw [e]
      simp
    exact (hmem _ this).1
  -- the last loop
  have part3 : ∀ s : Nat → Nat → Int32, (∀ c, c ≠ 103 → c ≠ 105 → s c = m c) → (∀ j, j < Lw.length → s 103 j = nI (Lw.getD j 0)) → (∀ j, j ≤ Lw.length → s 105 j = nI (sw (g 3) (Lw.drop j))) → ∃ m', ((fX7_looks 93 (Mk s l)).bind fun q11 => (gR 7 93 15 q11).bind fun x13 => (bI 8 x13 0 (-1) q11).bind fun m15 => fX7_packed_111 FU 93 (nI Lw.length) (-1) 0 0 m15) = some (iI (Bst g (-1)).1, Mk m' l) ∧ FN m m' ∧ MT 95 m' g ∧ MS m' g ∧ ∀ h, h < g 0 1 → m' 102 h = plM ((Bst g (-1)).2 h) := by
    intro s f1 h3 h5
    have hss : MS s g := by
      rw [MS_MR, f1 97 (by decide) (by decide)]
      exact hs
    have hts : MT 95 s g := by
      unfold MT
      rw [f1 95 (by decide) (by decide)]
      exact ht
    obtain ⟨m3, e3, c3⟩ := m_looks (m := s) (l := l)
    have l3 := MR_looks hss hP5 c3
    have b4 : bI 8 104 0 (-1) (Mk m3 l) = some (Mk (m2 m3 104 0 (-1)) l) := b104 (j := 0) (by decide)
    have mp : MP Lw g ((-1 : Int), fun _ => 0) (m2 m3 104 0 (-1)) := by
      refine ⟨?_, ?_, fun j hj => ?_, fun j hj => ?_, fun z => absurd z (Int.lt_irrefl _), Int.le_refl _, by decide⟩
      · rw [MS_MR, m2_ne (by decide)]
        exact l3.2
      · unfold MT
        rw [m2_ne (by decide), c3.2 95 (by decide)]
        exact hts
      · rw [m2_ne (by decide), c3.2 103 (by decide)]
        exact h3 j hj
      · rw [m2_ne (by decide), c3.2 105 (by decide)]
        exact h5 j hj
    have hsw := sw_le (w := g 3) (g := g) (fun i hi => (hw.1.2.2.2.2 i hi).2.1) (d := g 0 1) (h := 0) (by omega)
    obtain ⟨c, m5, q1, q2, q3, q4, q5⟩ := m_level (l := l) hL Lw 0 0 g (g 4) _ _ (List.drop_zero) (Nat.zero_le _) hw hP0 hmem (by rw [hLw]; exact wq_nd) (fun _ => rfl) (by rw [hLw]; omega) mp m2_at
    have eB : Sr (g 0 0) (g 2) (g 3) Lw (f0 g) 0 (g 4) ((-1 : Int), fun _ => 0) = Bst g (-1) := by rw [hLw, Bst]
    rw [eB] at q2 q3
    have hT := Tn_7 Lw.length hL
    obtain ⟨r, hr⟩ : ∃ r, FU = c + (r + 1) := ⟨FU - c - 1, by have := FU_big; omega⟩
    obtain ⟨m6, e6, c6⟩ := m_lets (m := m5) (l := l)
    have e101 : m5 101 = m3 101 := by rw [q4 101 (by decide) (by decide) (by decide), m2_ne (by decide)]
    have s6 : MS m6 g := MS_lets (by rw [e101]; exact l3.1) hP5 c6
    have q2' := q2 (r + 1)
    rw [iI_m1] at q2'
    have q2'' : fX7_packed_111 (c + (r + 1)) 93 (nI Lw.length) (-1) 0 0 (Mk (m2 m3 104 0 (-1)) l) = fX7_packed_111 (r + 1) 93 (nI Lw.length) (iI (Bst g (-1)).1) (nI 0) (nI 0 + (-1)) (Mk m5 l) := q2'
    refine ⟨m6, ?_, ?_, ?_, s6, fun h hh => ?_⟩
    · rw [e3, bS, M_r15, bS, b4, bS, hr, q2'', fX7_packed_111, if_pos (by decide), e6, bS]
    · intro c' z1 z2 z3
      rw [c6.2 c' z2, q4 c' z2 (by omega) (by omega), m2_ne (by omega), c3.2 c' (by omega), f1 c' (by omega) (by omega)]
    · unfold MT
      rw [c6.2 95 (by decide), q4 95 (by decide) (by decide) (by decide), m2_ne (by decide), c3.2 95 (by decide)]
      exact hts
    · rw [c6.2 102 (by decide)]
      refine q3.2.2.2.2.1 ?_ h hh
      rw [Bst_V]
      omega
  -- what all that wait are worth
  have part2 : ∀ s : Nat → Nat → Int32, F1 103 m s → (∀ j, j < Lw.length → s 103 j = nI (Lw.getD j 0)) → ∃ m', fX7_packed_54 FU 93 (nI Lw.length) (nI Lw.length - 1) (Mk (m2 s 105 Lw.length 0) l) = some (iI (Bst g (-1)).1, Mk m' l) ∧ FN m m' ∧ MT 95 m' g ∧ MS m' g ∧ ∀ h, h < g 0 1 → m' 102 h = plM ((Bst g (-1)).2 h) := by
    intro s f1 h3
    refine lpR (fun n j (s' : Nat → Nat → Int32) => fX7_packed_54 n 93 (nI Lw.length) (nI (Lw.length - j) - 1) (Mk s' l)) (fun j s' => (∀ i, Lw.length - j ≤ i → i ≤ Lw.length → s' 105 i = nI (sw (g 3) (Lw.drop i))) ∧ F1 105 s s') (fun o => ∃ m', o = some (iI (Bst g (-1)).1, Mk m' l) ∧ FN m m' ∧ MT 95 m' g ∧ MS m' g ∧ ∀ h, h < g 0 1 → m' 102 h = plM ((Bst g (-1)).2 h)) Lw.length ?_ ?_ FU 0 _ (by omega) (by have := FU_big; omega) ⟨fun i z1 z2 => ?_, F1.st⟩
    · intro n j s' hj hI
      left
      obtain ⟨i1, i2⟩ := hI
      obtain ⟨c, hc⟩ : ∃ c, Lw.length - j = c + 1 := ⟨Lw.length - j - 1, by omega⟩
      have hc' : Lw.length - (j + 1) = c := by omega
      have hcl : c < Lw.length := by omega
      have hg7 := hgd c hcl
      rw [hc] at i1
      refine ⟨m2 s' 105 c (nI (sw (g 3) (Lw.drop c))), ⟨fun i z1 z2 => ?_, i2.tr F1.st⟩, ?_⟩
      · by_cases z : i = c
        · rw [z, m2_at]
        · rw [m2_nk z]
          exact i1 i (by omega) z2
      · have ew : s' 95 (9 + Lw.getD c 0) = nI (g 3 (Lw.getD c 0)) := by
          rw [i2 95 (by decide), f1 95 (by decide), (ht.2.2.1 _ (by omega)).2]
        rw [hc, hc', nI_pred, fX7_packed_54, if_neg (nI_pos (by omega)), M_r16, bS, bS, nI_1, a105 (by omega), bS, M_r2, bS, M_r14, bS, a103 (by omega), bS, i2 103 (by decide), h3 c hcl, ad9, a95 (by omega), bS, ew, i1 (c + 1) (Nat.le_refl _) (by omega), nI_add, b105 (by omega), bS, nI_m1, drop_l hcl, sw, Nat.add_comm]
    · intro n s' hI
      obtain ⟨i1, i2⟩ := hI
      rw [Nat.sub_self, fX7_packed_54, if_pos (by decide)]
      exact part3 s' (fun c z1 z2 => by rw [i2 c z2, f1 c z1]) (fun j hj => by rw [i2 103 (by decide)]; exact h3 j hj) (fun j hj => i1 j (by omega) hj)
    · have : i = Lw.length := by omega
      rw [this, m2_at, List.drop_length]
      rfl
  rw [fX7_packed, grd_t M_o]
  refine lpR (fun n j (s : Nat × (Nat → Nat → Int32)) => fX7_packed_4 n 93 (nI s.1) (nI j) (Mk s.2 l)) (fun j s => Lw.drop s.1 = wq g j (g 0 1 - j) ∧ s.1 ≤ Lw.length ∧ (∀ i, i < s.1 → s.2 103 i = nI (Lw.getD i 0)) ∧ F1 103 m s.2) (fun o => ∃ m', o = some (iI (Bst g (-1)).1, Mk m' l) ∧ FN m m' ∧ MT 95 m' g ∧ MS m' g ∧ ∀ h, h < g 0 1 → m' 102 h = plM ((Bst g (-1)).2 h)) (g 0 1) ?_ ?_ FU 0 (0, m) (by omega) (by have := FU_big; omega) ⟨by rw [hLw, List.drop_zero, Nat.sub_zero], Nat.zero_le _, fun i hi => absurd hi (by omega), F1.rf⟩
  · intro n j s hj hI
    left
    obtain ⟨i1, i2, i3, i4⟩ := hI
    have e1 : s.2 95 1 = nI (g 0 1) := by rw [i4 95 (by decide)]; exact ht.2.1
    have e7 : s.2 97 (7 + j) = plM (g 4 j) := by rw [i4 97 (by decide)]; exact (hs.2.2.2 j (by omega)).1
    rw [wq_c hj] at i1
    rw [fX7_packed_4, M_r2, bS, a95_1, bS, e1, if_neg (nI_ge hj (by omega)), M_r4, bS, ad7, a97 (by omega), bS, e7]
    by_cases h9 : g 4 j = 9
    · rw [if_pos h9] at i1
      obtain ⟨k1, k2, k3⟩ := drop_c i1
      refine ⟨(s.1 + 1, m2 s.2 103 s.1 (nI j)), ⟨k3, by omega, fun i hi => ?_, i4.tr F1.st⟩, ?_⟩
      · show m2 s.2 103 s.1 (nI j) 103 i = _
        by_cases z : i = s.1
        · rw [z, m2_at, k1]
        · rw [m2_nk z]
          exact i3 i (by have : i < s.1 + 1 := hi; omega)
      · rw [if_pos ((plM_1 (pl_le hw.1 (by omega))).mpr h9), M_r14, bS, b103 (by omega), bS, nI_1, nI_1]
    · rw [if_neg h9] at i1
      refine ⟨s, ⟨i1, i2, i3, i4⟩, ?_⟩
      rw [if_neg (fun z => h9 ((plM_1 (pl_le hw.1 (by omega))).mp z)), nI_1]
  · intro n s hI
    obtain ⟨i1, i2, i3, i4⟩ := hI
    have e1 : s.2 95 1 = nI (g 0 1) := by rw [i4 95 (by decide)]; exact ht.2.1
    have es : s.1 = Lw.length := by
      rw [wq_e (Nat.le_refl _)] at i1
      have := List.drop_eq_nil_iff.mp i1
      omega
    rw [fX7_packed_4, M_r2, bS, a95_1, bS, e1, if_pos (nI_le (Nat.le_refl _) (by omega)), M_r16, bS, b105 (by omega), bS, es]
    exact part2 s.2 i4 (fun j hj => i3 j (by omega))
end PMa
theorem FQ_FJ {m m' : Nat → Nat → Int32} (h : FJ m m') : FQ m m' := fun c hc => h c (by omega)
theorem op_packs (x : Int32) : Op (fX6_packs 0 x) (fX7_packs 93 x) := by
  refine Op_q (fun z hz => ?_)
  have hw := hz.1.1
  have hN7 := hw.1.2.1
  have hP0 := hz.1.2.1
  have hpos : (-1 : Int) < (Bst (zg z) (-1)).1 := by
    rw [Bst_V]
    omega
  by_cases q : x = -1
  · refine ⟨iI (Bst (zg z) (-1)).1, C6_q (fun m l hc => ?_), C7_q (fun m l hc => ?_)⟩
    · obtain ⟨m1, e1, f1, _⟩ := c_mostOf isG_4 hc.1 hw.1 (bar := -1) (Int.le_refl _) (by decide)
      rw [iI_m1] at e1
      refine ⟨m1, l, ?_, FQ_FJ f1, FQl.rf⟩
      rw [fX6_packs, grd_t X_o, if_pos q, fX6_packs_18, X_r6, bS, X_r1, bS, e1, bS, if_pos q]
    · obtain ⟨m1, e1, f1, f2, f3, _⟩ := m_packed (l := l) hc.1.2 hc.1.1 hw hP0
      refine ⟨m1, ?_, f1, f2, f3⟩
      rw [fX7_packs, grd_t M_o, if_pos q, fX7_packs_15, e1, bS, if_pos q]
  by_cases q2 : x < 0 ∨ nI (zg z 0 1) ≤ x
  · refine ⟨-1, C6_p (fun m l hc => ?_), C7_p (fun m l hc => ?_)⟩
    · rw [fX6_packs, grd_t X_o, if_neg q, X_r1, bS, c_hasHour0 isG_4 hc.1 hw.1 q2, bS, if_pos rfl]
    · rw [fX7_packs, grd_t M_o, if_neg q, m_isHour hc.1.1 hw.1, bS, if_pos q2, if_pos rfl]
  obtain ⟨h, hh, rfl⟩ := inh (by omega) q2
  have h9 := Bst_9 hw.1 (show h < 7 by omega)
  refine ⟨plI ((Bst (zg z) (-1)).2 h), C6_q (fun m l hc => ?_), C7_q (fun m l hc => ?_)⟩
  · obtain ⟨m1, e1, f1, f2⟩ := c_mostOf isG_4 hc.1 hw.1 (bar := -1) (Int.le_refl _) (by decide)
    rw [iI_m1] at e1
    refine ⟨m1, l, ?_, FQ_FJ f1, FQl.rf⟩
    have ep : fX2_placeOf 84 (nI h) (Mk m1 l) = some (plI ((Bst (zg z) (-1)).2 h), Mk m1 l) := by
      rw [fX2_placeOf, grd_t K_o, if_neg (nI_pos (by omega)), if_neg (by rw [show (7 : Int32) = nI 7 from rfl]; exact nI_ge (by omega) (by decide)), K_r6, bS, a90 (by omega), bS, f2 hpos h hh]
    rw [fX6_packs, grd_t X_o, if_neg q, X_r1, bS, c_hasHour isG_4 hc.1 hw.1 hh, bS, if_neg n0, fX6_packs_18, X_r6, bS, X_r1, bS, e1, bS, if_neg q, X_r6, bS, ep, bS]
  · obtain ⟨m1, e1, f1, f2, f3, f4⟩ := m_packed (l := l) hc.1.2 hc.1.1 hw hP0
    refine ⟨m1, ?_, f1, f2, f3⟩
    rw [fX7_packs, grd_t M_o, if_neg q, m_isHour hc.1.1 hw.1, bS, if_neg q2, if_neg n0, fX7_packs_15, e1, bS, if_neg q]
    simp only [M_r13, bS, a102 (show h < 7 by omega), f4 h hh, plM_1 h9]
    rw [plI, plM]
    split <;> rfl
