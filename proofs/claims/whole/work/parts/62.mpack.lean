/-! the search, as the other does it -/
theorem drop_c {h : Nat} {t : List Nat} : ∀ {L : List Nat} {k : Nat}, L.drop k = h :: t → L.getD k 0 = h ∧ k < L.length ∧ L.drop (k + 1) = t
  | [], k, e => by simp at e
  | x :: L, 0, e => by
    rw [List.drop_zero] at e
    injection e with e1 e2
    subst e1
    subst e2
    exact ⟨rfl, by simp, rfl⟩
  | x :: L, k + 1, e => by
    rw [List.drop_succ_cons] at e
    obtain ⟨h1, h2, h3⟩ := drop_c e
    refine ⟨by rw [List.getD_cons_succ]; exact h1, by rw [List.length_cons]; omega, by rw [List.drop_succ_cons]; exact h3⟩
theorem wq_mem {g : Gn} {x : Nat} : ∀ {d h : Nat}, x ∈ wq g h d → h ≤ x ∧ x < h + d ∧ g 4 x = 9
  | 0, h, e => by simp [wq] at e
  | d + 1, h, e => by
    rw [wq] at e
    by_cases q : g 4 h = 9
    · rw [if_pos q, List.mem_cons] at e
      rcases e with e | e
      · subst e
        exact ⟨Nat.le_refl _, by omega, q⟩
      · have := wq_mem e
        exact ⟨by omega, by omega, this.2.2⟩
    · rw [if_neg q] at e
      have := wq_mem e
      exact ⟨by omega, by omega, this.2.2⟩
theorem wq_nd {g : Gn} : ∀ {d h : Nat}, (wq g h d).Nodup
  | 0, h => by simp [wq]
  | d + 1, h => by
    rw [wq]
    by_cases q : g 4 h = 9
    · rw [if_pos q, List.nodup_cons]
      refine ⟨fun z => ?_, wq_nd⟩
      have := wq_mem z
      omega
    · rw [if_neg q]
      exact wq_nd
def Tn : Nat → Nat
  | 0 => 1
  | n + 1 => 6 * (Tn n + 1) + 1
theorem Tn_7 : ∀ n, n ≤ 7 → Tn n ≤ 1000000 := by decide
def FM (m m' : Nat → Nat → Int32) : Prop := ∀ c, c ≠ 97 → c ≠ 102 → c ≠ 104 → m' c = m c
theorem FM.rf {m : Nat → Nat → Int32} : FM m m := fun _ _ _ _ => rfl
theorem FM.tr {m m1 m2' : Nat → Nat → Int32} (h1 : FM m m1) (h2 : FM m1 m2') : FM m m2' := fun c q1 q2 q3 => (h2 c q1 q2 q3).trans (h1 c q1 q2 q3)
theorem FM.s4 {m : Nat → Nat → Int32} {k : Nat} {x : Int32} : FM m (m2 m 104 k x) := fun c _ _ h => m2_ne h
theorem FM_F1 {m m' : Nat → Nat → Int32} {t : Nat} (h : F1 t m m') (ht : t = 97 ∨ t = 102 ∨ t = 104) : FM m m' := fun c h1 h2 h3 => h c (by omega)
def MP (Lw : List Nat) (g : Gn) (acc : Ac) (m : Nat → Nat → Int32) : Prop := MS m g ∧ MT 95 m g ∧ (∀ j, j < Lw.length → m 103 j = nI (Lw.getD j 0)) ∧ (∀ j, j ≤ Lw.length → m 105 j = nI (sw (g 3) (Lw.drop j))) ∧ (-1 < acc.1 → ∀ h, h < g 0 1 → m 102 h = plM (acc.2 h)) ∧ (-1 ≤ acc.1 ∧ acc.1 ≤ 140)
theorem MP_fm {Lw : List Nat} {g g' : Gn} {acc acc' : Ac} {m m' : Nat → Nat → Int32} (h : MP Lw g acc m) (hs : MS m' g') (hS : Sm g g') (e3 : g' 3 = g 3) (hf : FM m m') (h5 : -1 < acc'.1 → ∀ h, h < g' 0 1 → m' 102 h = plM (acc'.2 h)) (h6 : -1 ≤ acc'.1 ∧ acc'.1 ≤ 140) : MP Lw g' acc' m' := by
  obtain ⟨c1, c2, c3, c4, _, _⟩ := h
  refine ⟨hs, ?_, fun j hj => ?_, fun j hj => ?_, h5, h6⟩
  · have e : m' 95 = m 95 := hf 95 (by decide) (by decide) (by decide)
    have : MT 95 m' g := by
      unfold MT
      rw [e]
      exact c2
    exact MT_S this hS
  · rw [hf 103 (by decide) (by decide) (by decide)]
    exact c3 j hj
  · rw [hf 105 (by decide) (by decide) (by decide), e3]
    exact c4 j hj
theorem MP_nx {Lw : List Nat} {g g' : Gn} {acc : Ac} {m m' : Nat → Nat → Int32} (h : MP Lw g acc m) (hs : MS m' g') (hS : Sm g g') (e3 : g' 3 = g 3) (hf : FM m m') (h2 : m' 102 = m 102) : MP Lw g' acc m' := MP_fm h hs hS e3 hf (fun z j hj => by
  rw [h2]
  exact h.2.2.2.2.1 z j (by rw [← hS.2.1]; exact hj)) h.2.2.2.2.2
/-- what a level of the search does -/
def Lok (Lw : List Nat) (l : Nat → Nat → Int64) (t : List Nat) : Prop := ∀ (k won : Nat) (g : Gn) (tr : Nat → Nat) (acc : Ac) (m : Nat → Nat → Int32), Lw.drop k = t → k ≤ Lw.length → Wf g → 0 < g 0 0 → (∀ h, h ∈ t → h < g 0 1 ∧ g 4 h = 9) → t.Nodup → (∀ j, tr j = g 4 j) → won + sw (g 3) t ≤ 140 → MP Lw g acc m → m 104 k = -1 → ∃ c m', c ≤ Tn t.length ∧ (∀ n', fX7_packed_111 (c + n') 93 (nI Lw.length) (iI acc.1) (nI won) (nI k) (Mk m l) = fX7_packed_111 n' 93 (nI Lw.length) (iI (Sr (g 0 0) (g 2) (g 3) t (f0 g) won tr acc).1) (nI won) (nI k + (-1)) (Mk m' l)) ∧ MP Lw g (Sr (g 0 0) (g 2) (g 3) t (f0 g) won tr acc) m' ∧ FM m m' ∧ ∀ j, j < k → m' 104 j = m 104 j
theorem iI_le {i j : Int} (h1 : -1000 ≤ i) (h2 : i ≤ 1000) (h3 : -1000 ≤ j) (h4 : j ≤ 1000) : iI i ≤ iI j ↔ i ≤ j := by
  rw [Int32.le_iff_toInt_le, iI_to h1 h2, iI_to h3 h4]
section MKa
variable {m : Nat → Nat → Int32} {l : Nat → Nat → Int64} {g : Gn} {Lw : List Nat}
theorem a102 {j : Nat} (hj : j < 7) : aI 8 102 (nI j) (Mk m l) = some (m 102 j) := shN (by decide) (by decide) (by exact hj)
theorem b102 {j : Nat} (hj : j < 7) {x : Int32} : bI 8 102 (nI j) x (Mk m l) = some (Mk (m2 m 102 j x) l) := shP (by decide) (by decide) (by exact hj)
theorem a103 {j : Nat} (hj : j < 7) : aI 8 103 (nI j) (Mk m l) = some (m 103 j) := shN (by decide) (by decide) (by exact hj)
theorem b103 {j : Nat} (hj : j < 7) {x : Int32} : bI 8 103 (nI j) x (Mk m l) = some (Mk (m2 m 103 j x) l) := shP (by decide) (by decide) (by exact hj)
theorem a104 {j : Nat} (hj : j < 8) : aI 8 104 (nI j) (Mk m l) = some (m 104 j) := shN (by decide) (by decide) (by exact hj)
theorem b104 {j : Nat} (hj : j < 8) {x : Int32} : bI 8 104 (nI j) x (Mk m l) = some (Mk (m2 m 104 j x) l) := shP (by decide) (by decide) (by exact hj)
theorem a105 {j : Nat} (hj : j < 8) : aI 8 105 (nI j) (Mk m l) = some (m 105 j) := shN (by decide) (by decide) (by exact hj)
theorem b105 {j : Nat} (hj : j < 8) {x : Int32} : bI 8 105 (nI j) x (Mk m l) = some (Mk (m2 m 105 j x) l) := shP (by decide) (by decide) (by exact hj)
theorem m_marks (ht : MT 95 m g) (hw : Wb g) : ∃ m', fX7_marks 93 (Mk m l) = some (Mk m' l) ∧ (∀ h, h < g 0 1 → m' 102 h = m 97 (7 + h)) ∧ F1 102 m m' := by
  have h7 := hw.2.1
  rw [fX7_marks, grd_t M_o]
  refine lpR (fun n j (s : Nat → Nat → Int32) => fX7_marks_2 n 93 (nI j) (Mk s l)) (fun j s => (∀ h, h < j → s 102 h = m 97 (7 + h)) ∧ F1 102 m s) (fun o => ∃ m', o = some (Mk m' l) ∧ (∀ h, h < g 0 1 → m' 102 h = m 97 (7 + h)) ∧ F1 102 m m') (g 0 1) ?_ ?_ FU 0 m (by omega) (by have := FU_big; omega) ⟨fun h hh => absurd hh (by omega), F1.rf⟩
  · intro n j s hj hI
    left
    obtain ⟨i1, i2⟩ := hI
    refine ⟨m2 s 102 j (m 97 (7 + j)), ⟨fun h hh => ?_, i2.tr F1.st⟩, ?_⟩
    · by_cases q : h = j
      · subst q
        rw [m2_at]
      · rw [m2_nk q]
        exact i1 h (by omega)
    · have e1 : s 95 1 = nI (g 0 1) := by rw [i2 95 (by decide)]; exact ht.2.1
      rw [fX7_marks_2, M_r2, bS, a95_1, bS, e1, if_neg (nI_ge hj (by omega)), M_r13, bS, M_r4, bS, ad7, a97 (by omega), bS, b102 (by omega), bS, nI_1, i2 97 (by decide)]
  · intro n s hI
    obtain ⟨i1, i2⟩ := hI
    have e1 : s 95 1 = nI (g 0 1) := by rw [i2 95 (by decide)]; exact ht.2.1
    rw [fX7_marks_2, M_r2, bS, a95_1, bS, e1, if_pos (nI_le (Nat.le_refl _) (by omega))]
    exact ⟨s, rfl, i1, i2⟩
/-- no way left at this level: one up -/
theorem m_up {P k F : Nat} {n most sum : Int32} {K : Nat → Int32 → Int32 → Int32 → Int32 → Mu → Option (Int32 × Mu)} (hP : m 95 0 = nI P) (h5 : P ≤ 5) : fX7_packed_233 K (F + 1) 93 n most sum (nI k) (nI (P + 1)) (Mk m l) = K 93 n most sum (nI k + (-1)) (Mk m l) := by
  rw [fX7_packed_233, M_r2, bS, a95_0, bS, hP, if_pos (nI_le (by omega) (by omega)), fX7_packed_266, M_r2, bS, a95_0, bS, hP, if_pos (nI_lt (by omega) (by omega))]
theorem m_leaf (hL : Lw.length ≤ 7) : Lok Lw l [] := by
  intro k won g tr acc m hd hk hw hP0 hmem hnd htr hwon hm h104
  have hkn : k = Lw.length := by
    have := List.drop_eq_nil_iff.mp hd
    omega
  have hP5 := hw.1.1
  have hm' := hm
  obtain ⟨c1, c2, c3, c4, c5, c6⟩ := hm
  have e145 : ∀ (K : Nat → Int32 → Int32 → Int32 → Int32 → Mu → Option (Int32 × Mu)) (most : Int32) (m1 : Nat → Nat → Int32), m1 95 0 = nI (g 0 0) → fX7_packed_145 K 93 (nI Lw.length) most (nI won) (nI k) 1 (Mk m1 l) = K 93 (nI Lw.length) most (nI won) (nI k + (-1)) (Mk m1 l) := by
    intro K most m1 h0
    rw [fX7_packed_145, if_neg n0, M_r2, bS, a95_0, bS, h0, nI_1, fX7_packed_170, if_neg n0, show FU = 999999999 + 1 from rfl, m_up h0 hP5]
  have e0 : ∀ n', fX7_packed_111 (1 + n') 93 (nI Lw.length) (iI acc.1) (nI won) (nI k) (Mk m l) = fX7_packed_127 (fX7_packed_111 n') 93 (nI Lw.length) (iI acc.1) (nI won) (nI k) 1 (Mk m l) := by
    intro n'
    rw [Nat.add_comm, fX7_packed_111, if_neg (nI_pos (by omega)), if_pos (by rw [hkn])]
  have e00 : sw (g 3) [] = 0 := rfl
  rw [e00] at hwon
  by_cases q : acc.1 < (won : Int)
  · obtain ⟨m1, e1, k1, k2⟩ := m_marks (l := l) c2 hw.1
    have hN7 := hw.1.2.1
    have eS : Sr (g 0 0) (g 2) (g 3) [] (f0 g) won tr acc = ((won : Int), tr) := by rw [Sr, if_pos q]
    rw [eS]
    refine ⟨1, m1, by simp [Tn], fun n' => ?_, ?_, FM_F1 k2 (by omega), fun j _ => by rw [k2 104 (by decide)]⟩
    · have e95 : m1 95 0 = nI (g 0 0) := by rw [k2 95 (by decide)]; exact c2.1
      rw [e0, fX7_packed_127, if_neg n0, if_neg (by rw [← iI_n, iI_le (by omega) (by omega) (by omega) (by omega)]; omega), e1, bS, e145 _ _ _ e95, iI_n]
    · have s1 : MS m1 g := by
        have : m1 97 = m 97 := k2 97 (by decide)
        rw [MS_MR, this]
        exact c1
      exact MP_fm hm' s1 Sm.rf rfl (FM_F1 k2 (by omega)) (fun _ h hh => by
        show m1 102 h = plM (tr h)
        rw [k1 h hh, (c1.2.2.2 h (by omega)).1, htr]) ⟨show -1 ≤ (won : Int) by omega, show (won : Int) ≤ 140 by omega⟩
  · have eS : Sr (g 0 0) (g 2) (g 3) [] (f0 g) won tr acc = acc := by rw [Sr, if_neg q]
    rw [eS]
    refine ⟨1, m, by simp [Tn], fun n' => ?_, hm', FM.rf, fun _ _ => rfl⟩
    rw [e0, fX7_packed_127, if_neg n0, if_pos (by rw [← iI_n, iI_le (by omega) (by omega) (by omega) (by omega)]; omega), e145 _ _ _ c2.1]
end MKa
