/-! the first green -/
theorem ini_s : ini = some (0, 93, (107, oM ini, oL ini, oR ini)) := oB_s ini (by decide +kernel)
def gF : Gn := fun c k => match c with
  | 0 => [3, 7, 0, 0].getD k 0
  | 1 => [4, 3, 5].getD k 0
  | 2 => [0, 1, 2, 2, 3, 0, 1].getD k 0
  | 3 => [3, 7, 2, 4, 9, 5, 6].getD k 0
  | 4 => [0, 0, 1, 1, 2, 9, 9].getD k 0
  | 5 => [0, 1, 0, 1, 0, 0, 0].getD k 0
  | 6 => if k = 2 then 1 else 0
  | _ => 0
theorem Og_gF : Og gF := by
  refine ⟨⟨⟨by decide, by decide, by decide, ?_, ?_⟩, ?_, ?_⟩, by decide, by decide, by decide⟩
  · decide
  · decide
  · decide
  · have h : ∀ h, h < 7 → ∀ h', h' < 7 → gF 4 h ≠ 9 → gF 4 h = gF 4 h' → gF 5 h = gF 5 h' → h = h' := by decide
    exact fun a b h1 h2 => h a h1 b h2
theorem ini_c1 : (∀ k, k < 4 → oM ini 4 k = nI (gF 0 k)) ∧ (∀ p, p < 3 → oM ini 5 p = nI (gF 1 p)) := by decide +kernel
theorem ini_c2 : ∀ h, h < 7 → oM ini 6 h = nI (gF 2 h) ∧ oM ini 7 h = nI (gF 3 h) ∧ oM ini 8 h = plI (gF 4 h) ∧ (gF 4 h ≠ 9 → oM ini 9 h = nI (gF 5 h)) := by decide +kernel
theorem ini_c3 : ∀ y, y < 40 → (oL ini 4 4).toBitVec.getLsbD y = (gF 6 y == 1) := by decide +kernel
theorem ini_c4 : oM ini 16 0 = nI 0 ∧ oM ini 16 1 = nI 0 ∧ oM ini 66 0 = nI 0 ∧ oM ini 66 1 = nI 0 ∧ oM ini 1 0 = nI 0 ∧ oM ini 80 0 = nI 0 := by decide +kernel
theorem ini_m1 : (oM ini 95 0 = nI (gF 0 0) ∧ oM ini 95 1 = nI (gF 0 1)) ∧ (∀ h, h < 7 → oM ini 95 (2 + h) = nI (gF 2 h) ∧ oM ini 95 (9 + h) = nI (gF 3 h)) := by decide +kernel
theorem ini_m2 : ∀ y, y < 40 → oM ini 95 (16 + y) = if gF 6 y = 1 then 1 else 0 := by decide +kernel
theorem ini_m3 : (oM ini 97 0 = nI (gF 0 2) ∧ oM ini 97 1 = nI (gF 0 3)) ∧ (∀ p, p < 3 → oM ini 97 (2 + p) = nI (gF 1 p)) ∧ (∀ h, h < 7 → oM ini 97 (7 + h) = plM (gF 4 h) ∧ (gF 4 h ≠ 9 → oM ini 97 (14 + h) = nI (gF 5 h))) := by decide +kernel
theorem ini_m4 : oM ini 93 1 = nI 0 ∧ oM ini 93 6 = nI 0 ∧ oM ini 93 8 = nI 0 ∧ oM ini 93 10 = nI 0 := by decide +kernel
def zF : Zt := (gF, (0, fun _ => gF), (0, fun _ => gF), (0, fun _ => 0), (0, fun _ _ => 0))
theorem Zok_F : Zok zF := ⟨Og_gF, ⟨Nat.zero_le _, fun i hi => absurd hi (Nat.not_lt_zero i)⟩, ⟨Nat.zero_le _, fun i hi => absurd hi (Nat.not_lt_zero i)⟩, ⟨Nat.zero_le _, fun i hi => absurd hi (Nat.not_lt_zero i)⟩, ⟨Nat.zero_le _, fun i hi => absurd hi (Nat.not_lt_zero i)⟩⟩
theorem first_gen (m : Nat → Nat → Int32) (l : Nat → Nat → Int64) (c1 : (∀ k, k < 4 → m 4 k = nI (gF 0 k)) ∧ (∀ p, p < 3 → m 5 p = nI (gF 1 p))) (c2 : ∀ h, h < 7 → m 6 h = nI (gF 2 h) ∧ m 7 h = nI (gF 3 h) ∧ m 8 h = plI (gF 4 h) ∧ (gF 4 h ≠ 9 → m 9 h = nI (gF 5 h))) (c3 : ∀ y, y < 40 → (l 4 4).toBitVec.getLsbD y = (gF 6 y == 1)) (c4 : m 16 0 = nI 0 ∧ m 16 1 = nI 0 ∧ m 66 0 = nI 0 ∧ m 66 1 = nI 0 ∧ m 1 0 = nI 0 ∧ m 80 0 = nI 0) (m1 : (m 95 0 = nI (gF 0 0) ∧ m 95 1 = nI (gF 0 1)) ∧ (∀ h, h < 7 → m 95 (2 + h) = nI (gF 2 h) ∧ m 95 (9 + h) = nI (gF 3 h))) (m2' : ∀ y, y < 40 → m 95 (16 + y) = if gF 6 y = 1 then 1 else 0) (m3 : (m 97 0 = nI (gF 0 2) ∧ m 97 1 = nI (gF 0 3)) ∧ (∀ p, p < 3 → m 97 (2 + p) = nI (gF 1 p)) ∧ (∀ h, h < 7 → m 97 (7 + h) = plM (gF 4 h) ∧ (gF 4 h ≠ 9 → m 97 (14 + h) = nI (gF 5 h)))) (m4 : m 93 1 = nI 0 ∧ m 93 6 = nI 0 ∧ m 93 8 = nI 0 ∧ m 93 10 = nI 0) : CI zF m l ∧ MI zF m := by
  have hn : ∀ i, ¬ i < 0 := fun i => Nat.not_lt_zero i
  refine ⟨⟨⟨c1.1, c1.2, c2, c3⟩, ⟨Nat.zero_le _, c4.1, 0, by decide, c4.2.1, fun i hi => absurd hi (hn i)⟩, ⟨Nat.zero_le _, c4.2.2.1, 0, by decide, c4.2.2.2.1, fun i hi => absurd hi (hn i)⟩, ⟨c4.2.2.2.2.1, fun i hi => absurd hi (hn i)⟩, ⟨c4.2.2.2.2.2, fun i hi => absurd hi (hn i)⟩⟩, ⟨⟨m1.1.1, m1.1.2, m1.2, m2'⟩, ⟨m3.1.1, m3.1.2, m3.2.1, m3.2.2⟩⟩, ⟨m4.2.1, fun i hi => absurd hi (hn i)⟩, ⟨m4.2.2.1, fun i hi => absurd hi (hn i)⟩, ⟨m4.1, fun i hi => absurd hi (hn i)⟩, ⟨m4.2.2.2, fun i hi => absurd hi (hn i)⟩⟩
theorem first : ∃ m l, ini = some (0, 93, Mk m l) ∧ CI zF m l ∧ MI zF m := by
  refine ⟨oM ini, oL ini, ?_, first_gen _ _ ini_c1 ini_c2 ini_c3 ini_c4 ini_m1 ini_m2 ini_m3 ini_m4⟩
  have e : Mk (oM ini) (oL ini) = (107, oM ini, oL ini, oR ini) := by
    unfold Mk
    rw [rN_A]
    unfold rA
    rfl
  rw [e]
  exact ini_s
