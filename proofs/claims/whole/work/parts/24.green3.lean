/-- all cells but those of the green at a are as they were -/
def Fr (a : Nat) (m m' : Nat → Nat → Int32) : Prop := ∀ c, c < a ∨ a + 5 < c → m' c = m c
theorem Fr.rf {a : Nat} {m : Nat → Nat → Int32} : Fr a m m := fun _ _ => rfl
theorem Fr.tr {a : Nat} {m m1 m2' : Nat → Nat → Int32} (h1 : Fr a m m1) (h2 : Fr a m1 m2') : Fr a m m2' := fun c hc => (h2 c hc).trans (h1 c hc)
theorem Fr.st {a c k : Nat} {m : Nat → Nat → Int32} {x : Int32} (h1 : a ≤ c) (h2 : c ≤ a + 5) : Fr a m (m2 m c k x) := fun c' hc => m2_ne (by omega)
section CGw
variable {a : Nat} {m : Nat → Nat → Int32} {l : Nat → Nat → Int64} {g : Gn}
theorem CG_0 (hc : CG a m l g) {k x : Nat} (h0 : k ≠ 0) : CG a (m2 m a k (nI x)) l (m2 g 0 k x) := by
  have e : m2 g 0 k x 0 0 = g 0 0 := m2_nk (fun q => h0 q.symm)
  refine ⟨fun j hj => ?_, fun p hp => ?_, fun h hh => ?_, fun y hy => ?_⟩
  · by_cases q : j = k
    · subst q
      rw [m2_at, m2_at]
    · rw [m2_nk q, m2_nk q]
      exact hc.1 j hj
  · rw [e] at hp
    rw [m2_ne (by omega), m2_ne (by decide)]
    exact hc.2.1 p hp
  · rw [m2_ne (show a + 2 ≠ a by omega), m2_ne (show a + 3 ≠ a by omega), m2_ne (show a + 4 ≠ a by omega), m2_ne (show a + 5 ≠ a by omega), m2_ne (show 2 ≠ 0 by decide), m2_ne (show 3 ≠ 0 by decide), m2_ne (show 4 ≠ 0 by decide), m2_ne (show 5 ≠ 0 by decide)]
    exact hc.2.2.1 h hh
  · rw [m2_ne (show 6 ≠ 0 by decide)]
    exact hc.2.2.2 y hy
theorem CG_1 (hc : CG a m l g) {k x : Nat} : CG a (m2 m (a + 1) k (nI x)) l (m2 g 1 k x) := by
  have e : m2 g 1 k x 0 0 = g 0 0 := by rw [m2_ne (by decide)]
  refine ⟨fun j hj => ?_, fun p hp => ?_, fun h hh => ?_, fun y hy => ?_⟩
  · rw [m2_ne (by omega), m2_ne (by decide)]
    exact hc.1 j hj
  · rw [e] at hp
    by_cases q : p = k
    · subst q
      rw [m2_at, m2_at]
    · rw [m2_nk q, m2_nk q]
      exact hc.2.1 p hp
  · rw [m2_ne (show a + 2 ≠ a + 1 by omega), m2_ne (show a + 3 ≠ a + 1 by omega), m2_ne (show a + 4 ≠ a + 1 by omega), m2_ne (show a + 5 ≠ a + 1 by omega), m2_ne (show 2 ≠ 1 by decide), m2_ne (show 3 ≠ 1 by decide), m2_ne (show 4 ≠ 1 by decide), m2_ne (show 5 ≠ 1 by decide)]
    exact hc.2.2.1 h hh
  · rw [m2_ne (show 6 ≠ 1 by decide)]
    exact hc.2.2.2 y hy
theorem CG_2 (hc : CG a m l g) {k x : Nat} : CG a (m2 m (a + 2) k (nI x)) l (m2 g 2 k x) := by
  refine ⟨fun j hj => ?_, fun p hp => ?_, fun h hh => ?_, fun y hy => ?_⟩
  · rw [m2_ne (by omega), m2_ne (by decide)]
    exact hc.1 j hj
  · rw [m2_ne (by decide)] at hp
    rw [m2_ne (by omega), m2_ne (by decide)]
    exact hc.2.1 p hp
  · rw [m2_ne (show a + 3 ≠ a + 2 by omega), m2_ne (show a + 4 ≠ a + 2 by omega), m2_ne (show a + 5 ≠ a + 2 by omega), m2_ne (show 3 ≠ 2 by decide), m2_ne (show 4 ≠ 2 by decide), m2_ne (show 5 ≠ 2 by decide)]
    refine ⟨?_, (hc.2.2.1 h hh).2⟩
    by_cases q : h = k
    · subst q
      rw [m2_at, m2_at]
    · rw [m2_nk q, m2_nk q]
      exact (hc.2.2.1 h hh).1
  · rw [m2_ne (show 6 ≠ 2 by decide)]
    exact hc.2.2.2 y hy
theorem CG_3 (hc : CG a m l g) {k x : Nat} : CG a (m2 m (a + 3) k (nI x)) l (m2 g 3 k x) := by
  refine ⟨fun j hj => ?_, fun p hp => ?_, fun h hh => ?_, fun y hy => ?_⟩
  · rw [m2_ne (by omega), m2_ne (by decide)]
    exact hc.1 j hj
  · rw [m2_ne (by decide)] at hp
    rw [m2_ne (by omega), m2_ne (by decide)]
    exact hc.2.1 p hp
  · rw [m2_ne (show a + 2 ≠ a + 3 by omega), m2_ne (show a + 4 ≠ a + 3 by omega), m2_ne (show a + 5 ≠ a + 3 by omega), m2_ne (show 2 ≠ 3 by decide), m2_ne (show 4 ≠ 3 by decide), m2_ne (show 5 ≠ 3 by decide)]
    refine ⟨(hc.2.2.1 h hh).1, ?_, (hc.2.2.1 h hh).2.2⟩
    by_cases q : h = k
    · subst q
      rw [m2_at, m2_at]
    · rw [m2_nk q, m2_nk q]
      exact (hc.2.2.1 h hh).2.1
  · rw [m2_ne (show 6 ≠ 3 by decide)]
    exact hc.2.2.2 y hy
theorem CG_4 (hc : CG a m l g) {k x : Nat} (hx : x ≠ 9 → m (a + 5) k = nI (g 5 k)) : CG a (m2 m (a + 4) k (plI x)) l (m2 g 4 k x) := by
  refine ⟨fun j hj => ?_, fun p hp => ?_, fun h hh => ?_, fun y hy => ?_⟩
  · rw [m2_ne (by omega), m2_ne (by decide)]
    exact hc.1 j hj
  · rw [m2_ne (by decide)] at hp
    rw [m2_ne (by omega), m2_ne (by decide)]
    exact hc.2.1 p hp
  · rw [m2_ne (show a + 2 ≠ a + 4 by omega), m2_ne (show a + 3 ≠ a + 4 by omega), m2_ne (show a + 5 ≠ a + 4 by omega), m2_ne (show 2 ≠ 4 by decide), m2_ne (show 3 ≠ 4 by decide), m2_ne (show 5 ≠ 4 by decide)]
    refine ⟨(hc.2.2.1 h hh).1, (hc.2.2.1 h hh).2.1, ?_⟩
    by_cases q : h = k
    · subst q
      rw [m2_at, m2_at]
      exact ⟨rfl, hx⟩
    · rw [m2_nk q, m2_nk q]
      exact (hc.2.2.1 h hh).2.2
  · rw [m2_ne (show 6 ≠ 4 by decide)]
    exact hc.2.2.2 y hy
theorem CG_5 (hc : CG a m l g) {k x : Nat} : CG a (m2 m (a + 5) k (nI x)) l (m2 g 5 k x) := by
  refine ⟨fun j hj => ?_, fun p hp => ?_, fun h hh => ?_, fun y hy => ?_⟩
  · rw [m2_ne (by omega), m2_ne (by decide)]
    exact hc.1 j hj
  · rw [m2_ne (by decide)] at hp
    rw [m2_ne (by omega), m2_ne (by decide)]
    exact hc.2.1 p hp
  · rw [m2_ne (show a + 2 ≠ a + 5 by omega), m2_ne (show a + 3 ≠ a + 5 by omega), m2_ne (show a + 4 ≠ a + 5 by omega), m2_ne (show 2 ≠ 5 by decide), m2_ne (show 3 ≠ 5 by decide), m2_ne (show 4 ≠ 5 by decide)]
    refine ⟨(hc.2.2.1 h hh).1, (hc.2.2.1 h hh).2.1, (hc.2.2.1 h hh).2.2.1, fun h9 => ?_⟩
    by_cases q : h = k
    · subst q
      rw [m2_at, m2_at]
    · rw [m2_nk q, m2_nk q]
      exact (hc.2.2.1 h hh).2.2.2 h9
  · rw [m2_ne (show 6 ≠ 5 by decide)]
    exact hc.2.2.2 y hy
/-- another green stays -/
theorem CG_fr {b : Nat} {m' : Nat → Nat → Int32} (hc : CG a m l g) (hf : Fr b m m') (hab : a + 5 < b ∨ b + 5 < a) : CG a m' l g := by
  refine ⟨fun j hj => ?_, fun p hp => ?_, fun h hh => ?_, hc.2.2.2⟩
  · rw [hf a (by omega)]; exact hc.1 j hj
  · rw [hf (a + 1) (by omega)]; exact hc.2.1 p hp
  · rw [hf (a + 2) (by omega), hf (a + 3) (by omega), hf (a + 4) (by omega), hf (a + 5) (by omega)]; exact hc.2.2.1 h hh
theorem CG_eq {m' : Nat → Nat → Int32} {l' : Nat → Nat → Int64} (hc : CG a m l g) (hm : ∀ c, a ≤ c → c ≤ a + 5 → m' c = m c) (hl : l' a = l a) : CG a m' l' g := by
  refine ⟨fun j hj => ?_, fun p hp => ?_, fun h hh => ?_, by rw [hl]; exact hc.2.2.2⟩
  · rw [hm a (by omega) (by omega)]; exact hc.1 j hj
  · rw [hm (a + 1) (by omega) (by omega)]; exact hc.2.1 p hp
  · rw [hm (a + 2) (by omega) (by omega), hm (a + 3) (by omega) (by omega), hm (a + 4) (by omega) (by omega), hm (a + 5) (by omega) (by omega)]; exact hc.2.2.1 h hh
/-- whether one lies above another -/
def ab (g : Gn) (h i : Nat) : Bool := !(g 4 h == 9) && (g 4 i == g 4 h && decide (g 5 h < g 5 i))
theorem plI_2 {x y : Nat} (hx : x ≤ 9) (hy : y ≤ 9) : plI x = plI y ↔ x = y := by
  constructor
  · intro q
    by_cases h : y = 9
    · subst h
      rw [show plI 9 = -4 from rfl] at q
      exact (plI_4 hx).mp q
    · rw [show plI y = nI y by rw [plI, if_neg h]] at q
      exact (plI_eq hx (by omega)).mp q
  · intro q
    rw [q]
theorem c_isAbove (ha : isG a) (hc : CG a m l g) (hw : Wb g) {h i : Nat} (hh : h < g 0 1) (hi : i < g 0 1) : fX0_isAbove a (nI i) (nI h) (Mk m l) = some (if ab g h i then 1 else 0, Mk m l) := by
  have h7 := hw.2.1
  rw [fX0_isAbove, grd_t (G_o ha), c_lies ha hc hw hh]
  by_cases h9 : g 4 h = 9
  · simp only [Option.bind_some, if_pos h9, if_true]
    simp [ab, h9]
  · have b1 := (hw.2.2.2.2 h (by omega)).2.2
    have b2 := (hw.2.2.2.2 i (by omega)).2.2
    simp only [Option.bind_some, if_neg h9, if_neg (show ¬ (1 : Int32) = 0 by decide), c_placeOf ha hc hw hi, c_placeOf ha hc hw hh, plI_2 (pl_le hw (show i < 7 by omega)) (pl_le hw (show h < 7 by omega))]
    by_cases he : g 4 i = g 4 h
    · simp only [if_pos he, c_depthOf ha hc hw hi, c_depthOf ha hc hw hh, Option.bind_some]
      rw [(hc.2.2.1 h (by omega)).2.2.2 h9, (hc.2.2.1 i (by omega)).2.2.2 (by omega)]
      by_cases hd : g 5 h < g 5 i
      · rw [if_neg (nI_ge hd (by omega)), show ab g h i = true by simp [ab, h9, he, hd]]
        rfl
      · rw [if_pos (nI_le (by omega) (by omega)), show ab g h i = false by simp [ab, h9, he]; omega]
        rfl
    · simp only [if_neg he]
      rw [show ab g h i = false by simp [ab, he]]
      rfl
theorem c_isAbove0 (ha : isG a) (hc : CG a m l g) (hw : Wb g) {h : Nat} {x : Int32} (hh : h < g 0 1) (hx : x < 0 ∨ nI (g 0 1) ≤ x) (h9 : g 4 h ≠ 9) : fX0_isAbove a x (nI h) (Mk m l) = some (0, Mk m l) := by
  have h7 := hw.2.1
  rw [fX0_isAbove, grd_t (G_o ha), c_lies ha hc hw hh]
  have hp : fX0_placeOf a x (Mk m l) = some (-4, Mk m l) := by
    rw [fX0_placeOf, grd_t (G_o ha), c_hasHour0 ha hc hw hx]
    simp only [Option.bind_some, if_true]
  simp only [Option.bind_some, if_neg h9, if_neg (show ¬ (1 : Int32) = 0 by decide), hp, c_placeOf ha hc hw hh]
  rw [if_neg (fun q => h9 ((plI_4 (pl_le hw (show h < 7 by omega))).mp q.symm))]
end CGw
