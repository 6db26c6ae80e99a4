/-! a green, in numbers: g 0 0 plots, 0 1 hours, 0 2 the year, 0 3 stirred; g 1 rooms, 2 kinds, 3 worths, 4 where (9: the porch), 5 how deep, 6 frost -/
abbrev Gn : Type := Nat → Nat → Nat
def plI (x : Nat) : Int32 := if x = 9 then -4 else nI x
def ht (g : Gn) (p : Nat) : Nat := ct (fun j => g 4 j == p) 7
/-- its numbers are in their bounds -/
def Wb (g : Gn) : Prop := g 0 0 ≤ 5 ∧ g 0 1 ≤ 7 ∧ g 0 2 ≤ 100000 ∧ (∀ p, p < g 0 0 → g 1 p ≤ 9) ∧ (∀ h, h < 7 → g 2 h < 4 ∧ g 3 h ≤ 20 ∧ (g 4 h = 9 ∨ (g 4 h < g 0 0 ∧ h < g 0 1 ∧ g 5 h < 7)))
/-- and its stacks are whole: no two in one place, none above a gap -/
def Wf (g : Gn) : Prop := Wb g ∧ (∀ h, h < 7 → g 4 h ≠ 9 → g 5 h < ht g (g 4 h)) ∧ (∀ h h', h < 7 → h' < 7 → g 4 h ≠ 9 → g 4 h = g 4 h' → g 5 h = g 5 h' → h = h')
/-- the class's green at a is g -/
def CG (a : Nat) (m : Nat → Nat → Int32) (l : Nat → Nat → Int64) (g : Gn) : Prop := (∀ k, k < 4 → m a k = nI (g 0 k)) ∧ (∀ p, p < g 0 0 → m (a + 1) p = nI (g 1 p)) ∧ (∀ h, h < 7 → m (a + 2) h = nI (g 2 h) ∧ m (a + 3) h = nI (g 3 h) ∧ m (a + 4) h = plI (g 4 h) ∧ (g 4 h ≠ 9 → m (a + 5) h = nI (g 5 h))) ∧ (∀ y, y < 40 → (l a 4).toBitVec.getLsbD y = (g 6 y == 1))
theorem pl_le {g : Gn} (hw : Wb g) {h : Nat} (hh : h < 7) : g 4 h ≤ 9 := by
  have := (hw.2.2.2.2 h hh).2.2
  have := hw.1
  omega
theorem plI_eq {x p : Nat} (hx : x ≤ 9) (hp : p < 9) : plI x = nI p ↔ x = p := by
  rw [plI]
  by_cases h : x = 9
  · rw [if_pos h]
    constructor
    · intro q
      exact absurd q (n4_ne (by omega))
    · omega
  · rw [if_neg h, nI_inj (by omega) (by omega)]
theorem plI_4 {x : Nat} (hx : x ≤ 9) : plI x = -4 ↔ x = 9 := by
  rw [plI]
  by_cases h : x = 9
  · simp [h]
  · rw [if_neg h]
    constructor
    · intro q
      exact absurd q.symm (n4_ne (by omega))
    · exact fun q => absurd q h
section CGr
variable {a : Nat} {m : Nat → Nat → Int32} {l : Nat → Nat → Int64} {g : Gn}
theorem c_hasHour (ha : isG a) (hc : CG a m l g) (hw : Wb g) {h : Nat} (hh : h < g 0 1) : fX0_hasHour a (nI h) (Mk m l) = some (1, Mk m l) := by
  have h7 := hw.2.1
  have e1 := hc.1 1 (by decide)
  rw [fX0_hasHour, grd_t (G_o ha), if_neg (nI_pos (by omega)), G_gI ha, Option.bind_some, e1, if_neg (nI_ge hh (by omega)), if_neg (by rw [show (7 : Int32) = nI 7 from rfl]; exact nI_ge (by omega) (by omega))]
theorem c_hasHour0 (ha : isG a) (hc : CG a m l g) (hw : Wb g) {x : Int32} (hx : x < 0 ∨ nI (g 0 1) ≤ x) : fX0_hasHour a x (Mk m l) = some (0, Mk m l) := by
  have e1 := hc.1 1 (by decide)
  rw [fX0_hasHour, grd_t (G_o ha)]
  by_cases h0 : x < 0
  · rw [if_pos h0]
  · rw [if_neg h0, G_gI ha, Option.bind_some, e1, if_pos (hx.resolve_left h0)]
theorem c_hasPlot (ha : isG a) (hc : CG a m l g) (hw : Wb g) {p : Nat} (hp : p < g 0 0) : fX0_hasPlot a (nI p) (Mk m l) = some (1, Mk m l) := by
  have h5 := hw.1
  have e1 := hc.1 0 (by decide)
  rw [fX0_hasPlot, grd_t (G_o ha), if_neg (nI_pos (by omega)), G_gI ha, Option.bind_some, e1, if_neg (nI_ge hp (by omega)), if_neg (by rw [show (5 : Int32) = nI 5 from rfl]; exact nI_ge (by omega) (by omega))]
theorem c_hasPlot0 (ha : isG a) (hc : CG a m l g) (hw : Wb g) {x : Int32} (hx : x < 0 ∨ nI (g 0 0) ≤ x) : fX0_hasPlot a x (Mk m l) = some (0, Mk m l) := by
  have e1 := hc.1 0 (by decide)
  rw [fX0_hasPlot, grd_t (G_o ha)]
  by_cases h0 : x < 0
  · rw [if_pos h0]
  · rw [if_neg h0, G_gI ha, Option.bind_some, e1, if_pos (hx.resolve_left h0)]
theorem c_roomOf (ha : isG a) (hc : CG a m l g) (hw : Wb g) {p : Nat} (hp : p < g 0 0) : fX0_roomOf a (nI p) (Mk m l) = some (nI (g 1 p), Mk m l) := by
  have h5 := hw.1
  rw [fX0_roomOf, grd_t (G_o ha), c_hasPlot ha hc hw hp]
  simp only [Option.bind_some, if_neg (show ¬ (1 : Int32) = 0 by decide), G_r5 ha, G_a1 ha (show p < 5 by omega), hc.2.1 p hp]
theorem c_kindOf (ha : isG a) (hc : CG a m l g) (hw : Wb g) {h : Nat} (hh : h < g 0 1) : fX0_kindOf a (nI h) (Mk m l) = some (nI (g 2 h), Mk m l) := by
  have h7 := hw.2.1
  rw [fX0_kindOf, grd_t (G_o ha), c_hasHour ha hc hw hh]
  simp only [Option.bind_some, if_neg (show ¬ (1 : Int32) = 0 by decide), G_r6 ha, G_a2 ha (show h < 7 by omega), (hc.2.2.1 h (by omega)).1]
theorem c_kindOf0 (ha : isG a) (hc : CG a m l g) (hw : Wb g) {x : Int32} (hx : x < 0 ∨ nI (g 0 1) ≤ x) : fX0_kindOf a x (Mk m l) = some (-1, Mk m l) := by
  rw [fX0_kindOf, grd_t (G_o ha), c_hasHour0 ha hc hw hx]
  simp only [Option.bind_some, if_true]
theorem c_worthOf (ha : isG a) (hc : CG a m l g) (hw : Wb g) {h : Nat} (hh : h < g 0 1) : fX0_worthOf a (nI h) (Mk m l) = some (nI (g 3 h), Mk m l) := by
  have h7 := hw.2.1
  rw [fX0_worthOf, grd_t (G_o ha), c_hasHour ha hc hw hh]
  simp only [Option.bind_some, if_neg (show ¬ (1 : Int32) = 0 by decide), G_r7 ha, G_a3 ha (show h < 7 by omega), (hc.2.2.1 h (by omega)).2.1]
theorem c_placeOf (ha : isG a) (hc : CG a m l g) (hw : Wb g) {h : Nat} (hh : h < g 0 1) : fX0_placeOf a (nI h) (Mk m l) = some (plI (g 4 h), Mk m l) := by
  have h7 := hw.2.1
  rw [fX0_placeOf, grd_t (G_o ha), c_hasHour ha hc hw hh]
  simp only [Option.bind_some, if_neg (show ¬ (1 : Int32) = 0 by decide), G_r8 ha, G_a4 ha (show h < 7 by omega), (hc.2.2.1 h (by omega)).2.2.1]
theorem c_depthOf (ha : isG a) (hc : CG a m l g) (hw : Wb g) {h : Nat} (hh : h < g 0 1) : fX0_depthOf a (nI h) (Mk m l) = some (m (a + 5) h, Mk m l) := by
  have h7 := hw.2.1
  rw [fX0_depthOf, grd_t (G_o ha), c_hasHour ha hc hw hh]
  simp only [Option.bind_some, if_neg (show ¬ (1 : Int32) = 0 by decide), G_r9 ha, G_a5 ha (show h < 7 by omega)]
theorem c_lies (ha : isG a) (hc : CG a m l g) (hw : Wb g) {h : Nat} (hh : h < g 0 1) : fX0_lies a (nI h) (Mk m l) = some (if g 4 h = 9 then 0 else 1, Mk m l) := by
  have h7 := hw.2.1
  rw [fX0_lies, grd_t (G_o ha), c_hasHour ha hc hw hh]
  simp only [Option.bind_some, if_neg (show ¬ (1 : Int32) = 0 by decide), G_r8 ha, G_a4 ha (show h < 7 by omega), (hc.2.2.1 h (by omega)).2.2.1, plI_4 (pl_le hw (show h < 7 by omega))]
  split <;> rfl
theorem c_lies0 (ha : isG a) (hc : CG a m l g) (hw : Wb g) {x : Int32} (hx : x < 0 ∨ nI (g 0 1) ≤ x) : fX0_lies a x (Mk m l) = some (0, Mk m l) := by
  rw [fX0_lies, grd_t (G_o ha), c_hasHour0 ha hc hw hx]
  simp only [Option.bind_some, if_true]
theorem c_heightOf (ha : isG a) (hc : CG a m l g) (hw : Wb g) {p : Nat} (hp : p < 9) : fX0_heightOf a (nI p) (Mk m l) = some (nI (ht g p), Mk m l) := by
  rw [fX0_heightOf, grd_t (G_o ha)]
  refine lpR (fun n j (x : Int32) => fX0_heightOf_4 n a (nI p) x (nI j) (Mk m l)) (fun j x => x = nI (ct (fun i => g 4 i == p) j)) (fun o => o = some (nI (ht g p), Mk m l)) 7 ?_ ?_ FU 0 0 (by decide) (by decide) rfl
  · intro n j s hj hI
    left
    subst hI
    refine ⟨_, rfl, ?_⟩
    rw [fX0_heightOf_4, if_neg (by rw [show (7 : Int32) = nI 7 from rfl]; exact nI_ge hj (by decide)), G_r8 ha, Option.bind_some, G_a4 ha hj, Option.bind_some, (hc.2.2.1 j hj).2.2.1]
    by_cases h : g 4 j = p
    · rw [if_pos ((plI_eq (pl_le hw hj) hp).mpr h), nI_1, nI_1, ct]
      simp [h]
    · rw [if_neg (fun q => h ((plI_eq (pl_le hw hj) hp).mp q)), nI_1, ct]
      simp [h]
  · intro n s hI
    subst hI
    rw [fX0_heightOf_4, if_pos (by decide)]
    rfl
/-- which lies so deep in a plot: the first, or 7 -/
def fd (g : Gn) (p d : Nat) : Nat := fs1 (fun j => g 4 j == p && g 5 j == d) 7
theorem c_hourAt (ha : isG a) (hc : CG a m l g) (hw : Wb g) {p d : Nat} (hp : p < 9) (hd : d < 2 ^ 31) : fX0_hourAt a (nI p) (nI d) (Mk m l) = some (if fd g p d = 7 then -4 else nI (fd g p d), Mk m l) := by
  rw [fX0_hourAt, grd_t (G_o ha)]
  refine lpR (fun n j (_ : Unit) => fX0_hourAt_2 n a (nI p) (nI d) (nI j) (Mk m l)) (fun j _ => ∀ k, k < j → (g 4 k == p && g 5 k == d) = false) (fun o => o = some (if fd g p d = 7 then -4 else nI (fd g p d), Mk m l)) 7 ?_ ?_ FU 0 () (by decide) (by decide) (fun k hk => absurd hk (by omega))
  · intro n j s hj hI
    rw [fX0_hourAt_2, if_neg (by rw [show (7 : Int32) = nI 7 from rfl]; exact nI_ge hj (by decide)), G_r8 ha, Option.bind_some, G_a4 ha hj, Option.bind_some, (hc.2.2.1 j hj).2.2.1, G_r9 ha, Option.bind_some, G_a5 ha hj, Option.bind_some]
    by_cases h : g 4 j = p
    · have h9 : g 4 j ≠ 9 := by omega
      rw [if_pos ((plI_eq (pl_le hw hj) hp).mpr h), (hc.2.2.1 j hj).2.2.2 h9]
      have hdj : g 5 j < 2 ^ 31 := by
        have := (hw.2.2.2.2 j hj).2.2
        have := ct_le (fun i => g 4 i == g 4 j) 7
        have : ht g (g 4 j) ≤ 7 := this
        omega
      by_cases h2 : g 5 j = d
      · right
        rw [h2, if_pos rfl]
        have hf : fd g p d = j := fs1_at (by simp [h, h2]) hI hj
        rw [hf, if_neg (by omega)]
      · left
        rw [if_neg (by rw [nI_inj hdj hd]; exact h2), nI_1]
        refine ⟨(), fun k hk => ?_, rfl⟩
        by_cases hk2 : k = j
        · subst hk2
          simp [h2]
        · exact hI k (by omega)
    · left
      rw [if_neg (fun q => h ((plI_eq (pl_le hw hj) hp).mp q)), nI_1]
      refine ⟨(), fun k hk => ?_, rfl⟩
      by_cases hk2 : k = j
      · subst hk2
        simp [h]
      · exact hI k (by omega)
  · intro n s hI
    rw [fX0_hourAt_2, if_pos (by decide)]
    have hf : fd g p d = 7 := fs1_no hI
    rw [hf, if_pos rfl]
end CGr
