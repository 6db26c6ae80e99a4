/-! the search, as the program does it -/
def iI (i : Int) : Int32 := Int32.ofInt i
theorem iI_n (n : Nat) : iI (n : Int) = nI n := Int32.ofInt_eq_ofNat
theorem iI_to {i : Int} (h1 : -1000 ≤ i) (h2 : i ≤ 1000) : (iI i).toInt = i := Int32.toInt_ofInt_of_le (by omega) (by omega)
theorem iI_lt {i j : Int} (h1 : -1000 ≤ i) (h2 : i ≤ 1000) (h3 : -1000 ≤ j) (h4 : j ≤ 1000) : iI i < iI j ↔ i < j := by
  rw [Int32.lt_iff_toInt_lt, iI_to h1 h2, iI_to h3 h4]
theorem iI_eq {i j : Int} (h1 : -1000 ≤ i) (h2 : i ≤ 1000) (h3 : -1000 ≤ j) (h4 : j ≤ 1000) : iI i = iI j ↔ i = j := by
  rw [← Int32.toInt_inj, iI_to h1 h2, iI_to h3 h4]
theorem iI_sub (i : Int) (n : Nat) : iI i - nI n = iI (i - n) := by
  rw [← iI_n, iI, iI, iI, Int32.ofInt_sub]
theorem iI_m1 : iI (-1) = (-1 : Int32) := by decide
def wq (g : Gn) : Nat → Nat → List Nat
  | _, 0 => []
  | h, d + 1 => if g 4 h = 9 then h :: wq g (h + 1) d else wq g (h + 1) d
def bI1 (b : Bool) : Int32 := if b = true then 1 else 0
theorem bI1_0 {b : Bool} : bI1 b = 0 ↔ b = false := by cases b <;> decide
theorem bI1_inj {a b : Bool} : bI1 a = bI1 b ↔ a = b := by cases a <;> cases b <;> decide
def PK (P : Nat) (f : Pls) (m : Nat → Nat → Int32) : Prop := ∀ p, p < P → m 85 p = iI (f p).1 ∧ m 86 p = bI1 (f p).2
def Pb (P : Nat) (f : Pls) : Prop := ∀ p, p < P → -20 ≤ (f p).1 ∧ (f p).1 ≤ 9
def LA (g : Gn) (m : Nat → Nat → Int32) : Prop := ∀ h, h ≤ g 0 1 → m 87 h = nI (sw (g 3) (wq g h (g 0 1 - h))) ∧ m 88 h = nI (rc (g 2) (wq g h (g 0 1 - h)))
def AcR (N : Nat) (bar : Int) (a : Ac) (m : Nat → Nat → Int32) : Prop := m 84 0 = iI a.1 ∧ (bar < a.1 → ∀ h, h < N → m 90 h = plI (a.2 h))
/-- only the search's own rows change -/
def FJ (m m' : Nat → Nat → Int32) : Prop := ∀ c, c < 84 ∨ 90 < c → m' c = m c
theorem FJ.rf {m : Nat → Nat → Int32} : FJ m m := fun _ _ => rfl
theorem FJ.tr {m m1 m2' : Nat → Nat → Int32} (h1 : FJ m m1) (h2 : FJ m1 m2') : FJ m m2' := fun c hc => (h2 c hc).trans (h1 c hc)
theorem FJ.st {c k : Nat} {m : Nat → Nat → Int32} {x : Int32} (h1 : 84 ≤ c) (h2 : c ≤ 90) : FJ m (m2 m c k x) := fun c' hc => m2_ne (by omega)
theorem CG_FJ {a : Nat} {m m' : Nat → Nat → Int32} {l : Nat → Nat → Int64} {g : Gn} (ha : isG a) (hc : CG a m l g) (hf : FJ m m') : CG a m' l g := CG_eq hc (fun c h1 h2 => hf c (by have := isG_le ha; omega)) rfl
theorem sw_le {w : Nat → Nat} {g : Gn} (hw : ∀ h, h < 7 → w h ≤ 20) : ∀ {d h : Nat}, h + d ≤ 7 → sw w (wq g h d) ≤ 20 * d
  | 0, _, _ => by simp [wq, sw]
  | d + 1, h, hd => by
    have := sw_le (w := w) (g := g) hw (d := d) (h := h + 1) (by omega)
    rw [wq]
    split
    · rw [sw]
      have := hw h (by omega)
      omega
    · omega
theorem ls_le {k : Nat → Nat} : ∀ L : List Nat, ls k L ≤ 2 * L.length
  | [] => by simp [ls]
  | h :: t => by
    have := ls_le (k := k) t
    have : nm (k h) ≤ 2 := by
      rw [nm]
      split
      · omega
      · exact nd_le _ _
    rw [ls, List.length_cons]
    omega
theorem wq_len {g : Gn} : ∀ {d h : Nat}, (wq g h d).length ≤ d
  | 0, _ => by simp [wq]
  | d + 1, h => by
    have := wq_len (g := g) (d := d) (h := h + 1)
    rw [wq]
    split
    · rw [List.length_cons]
      omega
    · omega
theorem rc_le {k : Nat → Nat} {g : Gn} {h d : Nat} : rc k (wq g h d) ≤ 2 * d + 1 := by
  have h1 := ls_le (k := k) (wq g h d)
  have h2 := wq_len (g := g) (d := d) (h := h)
  have h3 := sto_le k (wq g h d)
  rw [rc]
  omega
section CPa
variable {m : Nat → Nat → Int32} {l : Nat → Nat → Int64}
theorem K_o : isO 2 84 (Mk m l) := ⟨show 84 < 107 by decide, by decide⟩
theorem K_gI {k : Nat} : gI 2 84 k (Mk m l) = some (m 84 k) := rfl
theorem K_pI {k : Nat} {x : Int32} : pI 2 84 k x (Mk m l) = some (Mk (m2 m 84 k x) l) := rfl
theorem K_r1 : gR 2 84 1 (Mk m l) = some 85 := gRk ⟨show 84 < 107 by decide, by decide⟩ (by decide) (by decide) (by decide)
theorem K_r2 : gR 2 84 2 (Mk m l) = some 86 := gRk ⟨show 84 < 107 by decide, by decide⟩ (by decide) (by decide) (by decide)
theorem K_r3 : gR 2 84 3 (Mk m l) = some 87 := gRk ⟨show 84 < 107 by decide, by decide⟩ (by decide) (by decide) (by decide)
theorem K_r4 : gR 2 84 4 (Mk m l) = some 88 := gRk ⟨show 84 < 107 by decide, by decide⟩ (by decide) (by decide) (by decide)
theorem K_r5 : gR 2 84 5 (Mk m l) = some 89 := gRk ⟨show 84 < 107 by decide, by decide⟩ (by decide) (by decide) (by decide)
theorem K_r6 : gR 2 84 6 (Mk m l) = some 90 := gRk ⟨show 84 < 107 by decide, by decide⟩ (by decide) (by decide) (by decide)
theorem a85 {j : Nat} (hj : j < 5) : aI 8 85 (nI j) (Mk m l) = some (m 85 j) := shN (by decide) (by decide) (by exact hj)
theorem b85 {j : Nat} (hj : j < 5) {x : Int32} : bI 8 85 (nI j) x (Mk m l) = some (Mk (m2 m 85 j x) l) := shP (by decide) (by decide) (by exact hj)
theorem a86 {j : Nat} (hj : j < 5) : aI 10 86 (nI j) (Mk m l) = some (m 86 j) := A_get (t := 10) (n := 5) (by decide) (by decide) hj (by decide)
theorem b86 {j : Nat} (hj : j < 5) (b : Bool) : bI 10 86 (nI j) (bI1 b) (Mk m l) = some (Mk (m2 m 86 j (bI1 b)) l) := by
  have h := A_put (m := m) (l := l) (c := 86) (t := 10) (n := 5) (x := bI1 b) (by decide) (by decide) hj (by decide)
  have e : vp_nar (tyA 10) (bI1 b) = bI1 b := by cases b <;> decide
  rw [e] at h
  exact h
theorem a87 {j : Nat} (hj : j < 8) : aI 8 87 (nI j) (Mk m l) = some (m 87 j) := shN (by decide) (by decide) (by exact hj)
theorem b87 {j : Nat} (hj : j < 8) {x : Int32} : bI 8 87 (nI j) x (Mk m l) = some (Mk (m2 m 87 j x) l) := shP (by decide) (by decide) (by exact hj)
theorem a88 {j : Nat} (hj : j < 8) : aI 8 88 (nI j) (Mk m l) = some (m 88 j) := shN (by decide) (by decide) (by exact hj)
theorem b88 {j : Nat} (hj : j < 8) {x : Int32} : bI 8 88 (nI j) x (Mk m l) = some (Mk (m2 m 88 j x) l) := shP (by decide) (by decide) (by exact hj)
theorem a89 {j : Nat} (hj : j < 7) : aI 8 89 (nI j) (Mk m l) = some (m 89 j) := shN (by decide) (by decide) (by exact hj)
theorem b89 {j : Nat} (hj : j < 7) {x : Int32} : bI 8 89 (nI j) x (Mk m l) = some (Mk (m2 m 89 j x) l) := shP (by decide) (by decide) (by exact hj)
theorem a90 {j : Nat} (hj : j < 7) : aI 8 90 (nI j) (Mk m l) = some (m 90 j) := shN (by decide) (by decide) (by exact hj)
theorem b90 {j : Nat} (hj : j < 7) {x : Int32} : bI 8 90 (nI j) x (Mk m l) = some (Mk (m2 m 90 j x) l) := shP (by decide) (by decide) (by exact hj)
/-- a twin ahead, or none that matters -/
theorem c_twin {P p r : Nat} {f : Pls} (hk : PK P f m) (hb : Pb P f) (hP : P ≤ 5) (hp : p < P) (hr : r ≤ 100) : (∃ q, q < p ∧ (((r : Int) ≤ (f q).1 ∧ (r : Int) ≤ (f p).1) ∨ f q = f p) ∧ fX2_hasTwinAhead 84 (nI p) (nI r) (Mk m l) = some (1, Mk m l)) ∨ fX2_hasTwinAhead 84 (nI p) (nI r) (Mk m l) = some (0, Mk m l) := by
  rw [fX2_hasTwinAhead, grd_t K_o]
  refine lpR (fun n j (_ : Unit) => fX2_hasTwinAhead_2 n 84 (nI p) (nI r) (nI j) (Mk m l)) (fun j _ => True) (fun o => (∃ q, q < p ∧ (((r : Int) ≤ (f q).1 ∧ (r : Int) ≤ (f p).1) ∨ f q = f p) ∧ o = some (1, Mk m l)) ∨ o = some (0, Mk m l)) p ?_ ?_ FU 0 () (by omega) (by have := FU_big; omega) trivial
  · intro n j s hj _
    have b1 := hb j (by omega)
    have b2 := hb p hp
    rw [fX2_hasTwinAhead_2, if_neg (nI_ge hj (by omega)), if_neg (by rw [show (5 : Int32) = nI 5 from rfl]; exact nI_ge (by omega) (by decide))]
    simp only [K_r1, K_r2, bS, a85 (show j < 5 by omega), a85 (show p < 5 by omega), (hk j (by omega)).1, (hk p hp).1, ← iI_n r, fX2_hasTwinAhead_37, iI_lt (show -1000 ≤ (f j).1 by omega) (show (f j).1 ≤ 1000 by omega) (show -1000 ≤ (r : Int) by omega) (show (r : Int) ≤ 1000 by omega), iI_lt (show -1000 ≤ (f p).1 by omega) (show (f p).1 ≤ 1000 by omega) (show -1000 ≤ (r : Int) by omega) (show (r : Int) ≤ 1000 by omega), if_true, if_neg n0, a86 (show j < 5 by omega), a86 (show p < 5 by omega), (hk j (by omega)).2, (hk p hp).2, bI1_inj, iI_eq (show -1000 ≤ (f j).1 by omega) (show (f j).1 ≤ 1000 by omega) (show -1000 ≤ (f p).1 by omega) (show (f p).1 ≤ 1000 by omega), nI_1]
    have go : ∀ o : Option (Int32 × Mu), (o = if (f j).1 = (f p).1 then (if (f j).2 = (f p).2 then some (1, Mk m l) else fX2_hasTwinAhead_2 n 84 (nI p) (iI r) (nI (j + 1)) (Mk m l)) else fX2_hasTwinAhead_2 n 84 (nI p) (iI r) (nI (j + 1)) (Mk m l)) → (∃ s' : Unit, True ∧ o = fX2_hasTwinAhead_2 n 84 (nI p) (iI r) (nI (j + 1)) (Mk m l)) ∨ ((∃ q, q < p ∧ (((r : Int) ≤ (f q).1 ∧ (r : Int) ≤ (f p).1) ∨ f q = f p) ∧ o = some (1, Mk m l)) ∨ o = some (0, Mk m l)) := by
      intro o ho
      by_cases q1 : (f j).1 = (f p).1
      · rw [if_pos q1] at ho
        by_cases q2 : (f j).2 = (f p).2
        · rw [if_pos q2] at ho
          exact Or.inr (Or.inl ⟨j, hj, Or.inr (Prod.ext q1 q2), ho⟩)
        · rw [if_neg q2] at ho
          exact Or.inl ⟨(), trivial, ho⟩
      · rw [if_neg q1] at ho
        exact Or.inl ⟨(), trivial, ho⟩
    by_cases q : (f j).1 < (r : Int)
    · rw [if_pos q]
      exact go _ rfl
    · rw [if_neg q]
      by_cases q2 : (f p).1 < (r : Int)
      · rw [if_pos q2]
        exact go _ rfl
      · rw [if_neg q2]
        exact Or.inr (Or.inl ⟨j, hj, Or.inl ⟨by omega, by omega⟩, rfl⟩)
  · intro n s _
    right
    rw [fX2_hasTwinAhead_2, if_pos (nI_le (Nat.le_refl p) (by omega))]
theorem c_choose {won : Nat} : ∃ m', fX2_choose 84 (nI won) (Mk m l) = some (Mk m' l) ∧ m' 84 0 = nI won ∧ (∀ j, j < 7 → m' 90 j = m 89 j) ∧ ∀ c, c ≠ 84 → c ≠ 90 → m' c = m c := by
  rw [fX2_choose, grd_t K_o, K_pI, bS]
  refine lpR (fun n j (s : Nat → Nat → Int32) => fX2_choose_7 n 84 (nI j) (Mk s l)) (fun j s => s 84 0 = nI won ∧ (∀ i, i < j → s 90 i = m 89 i) ∧ ∀ c, c ≠ 84 → c ≠ 90 → s c = m c) (fun o => ∃ m', o = some (Mk m' l) ∧ m' 84 0 = nI won ∧ (∀ j, j < 7 → m' 90 j = m 89 j) ∧ ∀ c, c ≠ 84 → c ≠ 90 → m' c = m c) 7 ?_ ?_ FU 0 _ (by decide) (by have := FU_big; omega) ⟨m2_at, fun i hi => absurd hi (by omega), fun c h1 _ => m2_ne h1⟩
  · intro n j s hj hI
    left
    obtain ⟨h1, h2, h3⟩ := hI
    refine ⟨m2 s 90 j (m 89 j), ⟨by rw [m2_ne (by decide)]; exact h1, fun i hi => ?_, fun c q1 q2 => by rw [m2_ne q2]; exact h3 c q1 q2⟩, ?_⟩
    · by_cases q : i = j
      · subst q
        rw [m2_at]
      · rw [m2_nk q]
        exact h2 i (by omega)
    · rw [fX2_choose_7, if_neg (by rw [show (7 : Int32) = nI 7 from rfl]; exact nI_ge hj (by decide)), K_r6, bS, K_r5, bS, a89 hj, bS, b90 hj, bS, nI_1, h3 89 (by decide) (by decide)]
  · intro n s hI
    rw [fX2_choose_7, if_pos (by decide)]
    exact ⟨s, rfl, hI⟩
end CPa
