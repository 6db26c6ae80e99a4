def plM (x : Nat) : Int32 := if x = 9 then -1 else nI x
/-- the model's row of now is g's -/
def MS (m : Nat → Nat → Int32) (g : Gn) : Prop := m 97 0 = nI (g 0 2) ∧ m 97 1 = nI (g 0 3) ∧ (∀ p, p < g 0 0 → m 97 (2 + p) = nI (g 1 p)) ∧ (∀ h, h < 7 → m 97 (7 + h) = plM (g 4 h) ∧ (g 4 h ≠ 9 → m 97 (14 + h) = nI (g 5 h)))
/-- what is told (t = 95), or the draft (t = 96), is g's -/
def MT (t : Nat) (m : Nat → Nat → Int32) (g : Gn) : Prop := m t 0 = nI (g 0 0) ∧ m t 1 = nI (g 0 1) ∧ (∀ h, h < 7 → m t (2 + h) = nI (g 2 h) ∧ m t (9 + h) = nI (g 3 h)) ∧ (∀ y, y < 40 → m t (16 + y) = if g 6 y = 1 then 1 else 0)
theorem plM_eq {x p : Nat} (hx : x ≤ 9) (hp : p < 9) : plM x = nI p ↔ x = p := by
  rw [plM]
  by_cases h : x = 9
  · rw [if_pos h]
    constructor
    · intro q
      exact absurd q (n1_ne (by omega))
    · omega
  · rw [if_neg h, nI_inj (by omega) (by omega)]
theorem plM_1 {x : Nat} (hx : x ≤ 9) : plM x = -1 ↔ x = 9 := by
  rw [plM]
  by_cases h : x = 9
  · simp [h]
  · rw [if_neg h]
    constructor
    · intro q
      exact absurd q.symm (n1_ne (by omega))
    · exact fun q => absurd q h
section MMa
variable {m : Nat → Nat → Int32} {l : Nat → Nat → Int64} {g : Gn}
theorem M_o : isO 7 93 (Mk m l) := ⟨show 93 < 107 by decide, by decide⟩
theorem M_gI {k : Nat} : gI 7 93 k (Mk m l) = some (m 93 k) := rfl
theorem M_pI {k : Nat} {x : Int32} : pI 7 93 k x (Mk m l) = some (Mk (m2 m 93 k x) l) := rfl
theorem M_r0 : gR 7 93 0 (Mk m l) = some 94 := gRk ⟨show 93 < 107 by decide, by decide⟩ (by decide) (by decide) (by decide)
theorem M_r2 : gR 7 93 2 (Mk m l) = some 95 := gRk ⟨show 93 < 107 by decide, by decide⟩ (by decide) (by decide) (by decide)
theorem M_r3 : gR 7 93 3 (Mk m l) = some 96 := gRk ⟨show 93 < 107 by decide, by decide⟩ (by decide) (by decide) (by decide)
theorem M_r4 : gR 7 93 4 (Mk m l) = some 97 := gRk ⟨show 93 < 107 by decide, by decide⟩ (by decide) (by decide) (by decide)
theorem M_r5 : gR 7 93 5 (Mk m l) = some 98 := gRk ⟨show 93 < 107 by decide, by decide⟩ (by decide) (by decide) (by decide)
theorem M_r7 : gR 7 93 7 (Mk m l) = some 99 := gRk ⟨show 93 < 107 by decide, by decide⟩ (by decide) (by decide) (by decide)
theorem M_r9 : gR 7 93 9 (Mk m l) = some 100 := gRk ⟨show 93 < 107 by decide, by decide⟩ (by decide) (by decide) (by decide)
theorem M_r12 : gR 7 93 12 (Mk m l) = some 101 := gRk ⟨show 93 < 107 by decide, by decide⟩ (by decide) (by decide) (by decide)
theorem M_r13 : gR 7 93 13 (Mk m l) = some 102 := gRk ⟨show 93 < 107 by decide, by decide⟩ (by decide) (by decide) (by decide)
theorem M_r14 : gR 7 93 14 (Mk m l) = some 103 := gRk ⟨show 93 < 107 by decide, by decide⟩ (by decide) (by decide) (by decide)
theorem M_r15 : gR 7 93 15 (Mk m l) = some 104 := gRk ⟨show 93 < 107 by decide, by decide⟩ (by decide) (by decide) (by decide)
theorem M_r16 : gR 7 93 16 (Mk m l) = some 105 := gRk ⟨show 93 < 107 by decide, by decide⟩ (by decide) (by decide) (by decide)
theorem M_r17 : gR 7 93 17 (Mk m l) = some 106 := gRk ⟨show 93 < 107 by decide, by decide⟩ (by decide) (by decide) (by decide)
theorem shN {c : Nat} (hc : c < 107) (h : (sh c).1 = 8) {j : Nat} (hj : j < (sh c).2) : aI 8 c (nI j) (Mk m l) = some (m c j) := A_get (t := 8) (n := (sh c).2) (by rw [← h]) hc hj (by
  have : ∀ c, c < 107 → (sh c).2 < 2 ^ 31 := by decide
  exact this c hc)
theorem shP {c : Nat} (hc : c < 107) (h : (sh c).1 = 8) {j : Nat} (hj : j < (sh c).2) {x : Int32} : bI 8 c (nI j) x (Mk m l) = some (Mk (m2 m c j x) l) := A_put8 (n := (sh c).2) (by rw [← h]) hc hj (by
  have : ∀ c, c < 107 → (sh c).2 < 2 ^ 31 := by decide
  exact this c hc)
theorem ad2 (j : Nat) : (2 : Int32) + nI j = nI (2 + j) := nI_add 2 j
theorem ad7 (j : Nat) : (7 : Int32) + nI j = nI (7 + j) := nI_add 7 j
theorem ad9 (j : Nat) : (9 : Int32) + nI j = nI (9 + j) := nI_add 9 j
theorem ad14 (j : Nat) : (14 : Int32) + nI j = nI (14 + j) := nI_add 14 j
theorem ad16 (j : Nat) : (16 : Int32) + nI j = nI (16 + j) := nI_add 16 j
theorem a97 {j : Nat} (hj : j < 21) : aI 8 97 (nI j) (Mk m l) = some (m 97 j) := shN (by decide) (by decide) (by exact hj)
theorem b97 {j : Nat} (hj : j < 21) {x : Int32} : bI 8 97 (nI j) x (Mk m l) = some (Mk (m2 m 97 j x) l) := shP (by decide) (by decide) (by exact hj)
theorem a95 {j : Nat} (hj : j < 56) : aI 8 95 (nI j) (Mk m l) = some (m 95 j) := shN (by decide) (by decide) (by exact hj)
theorem a96 {j : Nat} (hj : j < 56) : aI 8 96 (nI j) (Mk m l) = some (m 96 j) := shN (by decide) (by decide) (by exact hj)
theorem b95 {j : Nat} (hj : j < 56) {x : Int32} : bI 8 95 (nI j) x (Mk m l) = some (Mk (m2 m 95 j x) l) := shP (by decide) (by decide) (by exact hj)
theorem b96 {j : Nat} (hj : j < 56) {x : Int32} : bI 8 96 (nI j) x (Mk m l) = some (Mk (m2 m 96 j x) l) := shP (by decide) (by decide) (by exact hj)
theorem a97_0 : aI 8 97 0 (Mk m l) = some (m 97 0) := a97 (j := 0) (by decide)
theorem b97_0 {x : Int32} : bI 8 97 0 x (Mk m l) = some (Mk (m2 m 97 0 x) l) := b97 (j := 0) (by decide)
theorem a97_1 : aI 8 97 1 (Mk m l) = some (m 97 1) := a97 (j := 1) (by decide)
theorem b97_1 {x : Int32} : bI 8 97 1 x (Mk m l) = some (Mk (m2 m 97 1 x) l) := b97 (j := 1) (by decide)
theorem a95_0 : aI 8 95 0 (Mk m l) = some (m 95 0) := a95 (j := 0) (by decide)
theorem a95_1 : aI 8 95 1 (Mk m l) = some (m 95 1) := a95 (j := 1) (by decide)
theorem a96_0 : aI 8 96 0 (Mk m l) = some (m 96 0) := a96 (j := 0) (by decide)
theorem a96_1 : aI 8 96 1 (Mk m l) = some (m 96 1) := a96 (j := 1) (by decide)
theorem b96_0 {x : Int32} : bI 8 96 0 x (Mk m l) = some (Mk (m2 m 96 0 x) l) := b96 (j := 0) (by decide)
theorem b96_1 {x : Int32} : bI 8 96 1 x (Mk m l) = some (Mk (m2 m 96 1 x) l) := b96 (j := 1) (by decide)
theorem m_in {x y z : Int32} {μ : Mu} : fX7_in x y z μ = some (if x < y ∨ z < x then 0 else 1, μ) := by
  rw [fX7_in]
  by_cases h1 : x < y
  · simp [h1]
  · by_cases h2 : z < x
    · simp [h1, h2]
    · simp [h1, h2]
theorem lt_pred {x : Int32} {n : Nat} (hn : n < 2 ^ 31) : nI n - 1 < x ↔ nI n ≤ x ∨ False := by
  rw [or_false, Int32.lt_iff_toInt_lt, Int32.le_iff_toInt_le, nI_toInt hn]
  have : (nI n - 1).toInt = (n : Int) - 1 := by
    cases n with
    | zero => decide
    | succ k =>
      rw [nI_pred, nI_toInt (by omega)]
      omega
  rw [this]
  omega
theorem m_isPlot (ht : MT 95 m g) (hw : Wb g) (x : Int32) : fX7_isPlot 93 x (Mk m l) = some (if x < 0 ∨ nI (g 0 0) ≤ x then 0 else 1, Mk m l) := by
  have h5 := hw.1
  rw [fX7_isPlot, grd_t M_o, M_r2, Option.bind_some, a95_0, Option.bind_some, ht.1, m_in, Option.bind_some]
  simp only [lt_pred (show g 0 0 < 2 ^ 31 by omega), or_false]
  split
  · rw [grd_t (Or.inl rfl)]
  · rw [grd_t (Or.inr rfl)]
theorem m_isHour (ht : MT 95 m g) (hw : Wb g) (x : Int32) : fX7_isHour 93 x (Mk m l) = some (if x < 0 ∨ nI (g 0 1) ≤ x then 0 else 1, Mk m l) := by
  have h7 := hw.2.1
  rw [fX7_isHour, grd_t M_o, M_r2, Option.bind_some, a95_1, Option.bind_some, ht.2.1, m_in, Option.bind_some]
  simp only [lt_pred (show g 0 1 < 2 ^ 31 by omega), or_false]
  split
  · rw [grd_t (Or.inl rfl)]
  · rw [grd_t (Or.inr rfl)]
theorem m_manyIn (hs : MS m g) (hw : Wb g) {p : Nat} (hp : p < 9) : fX7_manyIn 93 (nI p) (Mk m l) = some (nI (ht g p), Mk m l) := by
  rw [fX7_manyIn, grd_t M_o]
  refine lpR (fun n j (x : Int32) => fX7_manyIn_4 n 93 (nI p) x (nI j) (Mk m l)) (fun j x => x = nI (ct (fun i => g 4 i == p) j)) (fun o => o = some (nI (ht g p), Mk m l)) 7 ?_ ?_ FU 0 0 (by decide) (by decide) rfl
  · intro n j s hj hI
    left
    subst hI
    refine ⟨_, rfl, ?_⟩
    rw [fX7_manyIn_4, if_neg (by rw [show (7 : Int32) = nI 7 from rfl]; exact nI_ge hj (by decide)), M_r4, Option.bind_some, ad7, a97 (by omega), Option.bind_some, (hs.2.2.2 j hj).1]
    by_cases h : g 4 j = p
    · rw [if_pos ((plM_eq (pl_le hw hj) hp).mpr h), nI_1, nI_1, ct]
      simp [h]
    · rw [if_neg (fun q => h ((plM_eq (pl_le hw hj) hp).mp q)), nI_1, ct]
      simp [h]
  · intro n s hI
    subst hI
    rw [fX7_manyIn_4, if_pos (by decide)]
    rfl
/-- no two in one place -/
def Un (g : Gn) : Prop := ∀ h h', h < 7 → h' < 7 → g 4 h ≠ 9 → g 4 h = g 4 h' → g 5 h = g 5 h' → h = h'
theorem m_lying (hs : MS m g) (hw : Wb g) (hu : Un g) {p d : Nat} (hp : p < 9) (hd : d < 2 ^ 31) : fX7_lying 93 (nI p) (nI d) (Mk m l) = some (if fd g p d = 7 then -4 else nI (fd g p d), Mk m l) := by
  rw [fX7_lying, grd_t M_o]
  refine lpR (fun n j (x : Int32) => fX7_lying_6 n 93 (nI p) (nI d) x (nI j) (Mk m l)) (fun j x => (x = -4 ∧ ∀ k, k < j → (g 4 k == p && g 5 k == d) = false) ∨ ∃ i, i < j ∧ i < 7 ∧ x = nI i ∧ g 4 i = p ∧ g 5 i = d) (fun o => o = some (if fd g p d = 7 then -4 else nI (fd g p d), Mk m l)) 7 ?_ ?_ FU 0 _ (by decide) (by decide) (Or.inl ⟨rfl, fun k hk => absurd hk (by omega)⟩)
  · intro n j s hj hI
    left
    rw [fX7_lying_6, if_neg (by rw [show (7 : Int32) = nI 7 from rfl]; exact nI_ge hj (by decide))]
    simp only [M_r4, Option.bind_some, ad7, ad14, a97 (show 7 + j < 21 by omega), a97 (show 14 + j < 21 by omega), (hs.2.2.2 j hj).1]
    by_cases h : g 4 j = p
    · have h9 : g 4 j ≠ 9 := by omega
      have hdj : g 5 j < 2 ^ 31 := by
        have := (hw.2.2.2.2 j hj).2.2
        omega
      rw [if_pos ((plM_eq (pl_le hw hj) hp).mpr h), (hs.2.2.2 j hj).2 h9]
      by_cases h2 : g 5 j = d
      · rw [h2, if_pos rfl, nI_1]
        exact ⟨nI j, Or.inr ⟨j, by omega, hj, rfl, h, h2⟩, rfl⟩
      · rw [if_neg (by rw [nI_inj hdj hd]; exact h2), nI_1]
        refine ⟨s, ?_, rfl⟩
        rcases hI with ⟨e, hI⟩ | ⟨i, h3, h4⟩
        · refine Or.inl ⟨e, fun k hk => ?_⟩
          by_cases hk2 : k = j
          · subst hk2
            simp [h2]
          · exact hI k (by omega)
        · exact Or.inr ⟨i, by omega, h4⟩
    · rw [if_neg (fun q => h ((plM_eq (pl_le hw hj) hp).mp q)), nI_1]
      refine ⟨s, ?_, rfl⟩
      rcases hI with ⟨e, hI⟩ | ⟨i, h3, h4⟩
      · refine Or.inl ⟨e, fun k hk => ?_⟩
        by_cases hk2 : k = j
        · subst hk2
          simp [h]
        · exact hI k (by omega)
      · exact Or.inr ⟨i, by omega, h4⟩
  · intro n s hI
    rw [fX7_lying_6, if_pos (by decide)]
    rcases hI with ⟨e, hI⟩ | ⟨i, h3, h4, e, h5, h6⟩
    · have hf : fd g p d = 7 := fs1_no hI
      rw [hf, if_pos rfl, e]
    · have hf : fd g p d = i := by
        refine fs1_at (by simp [h5, h6]) (fun k hk => ?_) h4
        by_cases q : (g 4 k == p && g 5 k == d) = true
        · simp only [Bool.and_eq_true, beq_iff_eq] at q
          exact absurd (hu k i (by omega) h4 (by omega) (by omega) (by omega)) (by omega)
        · simpa using q
      rw [hf, if_neg (by omega), e]
theorem m_lyingN (hs : MS m g) (hw : Wb g) {p : Nat} (hp : p < 9) : fX7_lying 93 (nI p) (-1) (Mk m l) = some (-4, Mk m l) := by
  rw [fX7_lying, grd_t M_o]
  refine lpR (fun n j (x : Int32) => fX7_lying_6 n 93 (nI p) (-1) x (nI j) (Mk m l)) (fun j x => x = -4) (fun o => o = some (-4, Mk m l)) 7 ?_ ?_ FU 0 _ (by decide) (by decide) rfl
  · intro n j s hj hI
    left
    subst hI
    refine ⟨-4, rfl, ?_⟩
    rw [fX7_lying_6, if_neg (by rw [show (7 : Int32) = nI 7 from rfl]; exact nI_ge hj (by decide))]
    simp only [M_r4, Option.bind_some, ad7, ad14, a97 (show 7 + j < 21 by omega), a97 (show 14 + j < 21 by omega), (hs.2.2.2 j hj).1]
    by_cases h : g 4 j = p
    · have h9 : g 4 j ≠ 9 := by omega
      have hdj : g 5 j < 2 ^ 31 := by
        have := (hw.2.2.2.2 j hj).2.2
        omega
      rw [if_pos ((plM_eq (pl_le hw hj) hp).mpr h), (hs.2.2.2 j hj).2 h9, if_neg (fun q => n1_ne hdj q.symm), nI_1]
    · rw [if_neg (fun q => h ((plM_eq (pl_le hw hj) hp).mp q)), nI_1]
  · intro n s hI
    subst hI
    rw [fX7_lying_6, if_pos (by decide)]
theorem m_topOf (hs : MS m g) (hw : Wb g) (hu : Un g) {p : Nat} (hp : p < 9) : fX7_topOf 93 (nI p) (Mk m l) = some (if tp g p = 7 then -4 else nI (tp g p), Mk m l) := by
  rw [fX7_topOf, grd_t M_o, m_manyIn hs hw hp]
  simp only [Option.bind_some]
  by_cases h : ht g p = 0
  · rw [h, show nI 0 - 1 = -1 by decide, m_lyingN hs hw hp]
    simp [tp, h]
  · obtain ⟨k, hk⟩ : ∃ k, ht g p = k + 1 := ⟨ht g p - 1, by omega⟩
    have := ht_le g p
    rw [hk, nI_pred, m_lying hs hw hu hp (by omega)]
    simp [tp, hk]
theorem m_needs {x : Int32} {b k : Nat} {μ : Mu} (hk : k < 4) (hb : x = 2 ↔ b = 2) : fX7_needs (nI k) x μ = some (nI (nd b k), μ) := by
  rw [fX7_needs, nd]
  have h2 : (nI k = 2) ↔ k = 2 := by rw [show (2 : Int32) = nI 2 from rfl]; exact nI_inj (by omega) (by omega)
  have h1 : (nI k = 1) ↔ k = 1 := by rw [show (1 : Int32) = nI 1 from rfl]; exact nI_inj (by omega) (by omega)
  simp only [h1, h2, hb]
  by_cases q : k = 1
  · subst q
    simp
    rfl
  · by_cases q2 : k = 2
    · subst q2
      simp
      split <;> rfl
    · simp [q, q2]
      rfl
def kmI (k : Nat) : Int32 := if k = 9 then -4 else nI k
/-- the kind of one found, by what is told (f = 0) or by the draft (f = 1) -/
theorem m_kindOf {t : Nat} {f : Int32} (htf : (t = 95 ∧ f = 0) ∨ (t = 96 ∧ f = 1)) (ht : MT t m g) {x : Nat} (hx : x ≤ 7) : fX7_kindOf 93 (if x = 7 then -4 else nI x) f (Mk m l) = some (if x = 7 then -4 else nI (g 2 x), Mk m l) := by
  by_cases h : x = 7
  · rw [if_pos h, if_pos h, fX7_kindOf, grd_t M_o, if_pos rfl]
  · rw [if_neg h, if_neg h, fX7_kindOf, grd_t M_o, if_neg (fun q => n4_ne (show x < 2 ^ 31 by omega) q.symm)]
    rcases htf with ⟨rfl, rfl⟩ | ⟨rfl, rfl⟩
    · rw [if_pos rfl, M_r2, Option.bind_some, ad2, a95 (by omega), Option.bind_some, (ht.2.2.1 x (by omega)).1]
    · rw [if_neg (by decide), M_r3, Option.bind_some, ad2, a96 (by omega), Option.bind_some, (ht.2.2.1 x (by omega)).1]
end MMa
