theorem ht_cong {g g' : Gn} (h : ∀ i, i < 7 → g' 4 i = g 4 i) (p : Nat) : ht g' p = ht g p := ct_cong (fun i hi => by rw [h i hi])
theorem Wf_of {g g' : Gn} (hw : Wf g) (hb : Wb g') (h4 : ∀ i, i < 7 → g' 4 i = g 4 i) (h5 : ∀ i, i < 7 → g' 5 i = g 5 i) : Wf g' := by
  refine ⟨hb, fun h hh h9 => ?_, fun h h' hh hh' h9 e1 e2 => ?_⟩
  · rw [h4 h hh] at h9 ⊢
    rw [h5 h hh, ht_cong h4]
    exact hw.2.1 h hh h9
  · rw [h4 h hh] at h9 e1
    rw [h4 h' hh'] at e1
    rw [h5 h hh, h5 h' hh'] at e2
    exact hw.2.2 h h' hh hh' h9 e1 e2
theorem Wb_0 {g : Gn} (hw : Wb g) {k x : Nat} (h0 : k ≠ 0) (h1 : k ≠ 1) (h2 : k = 2 → x ≤ 100000) : Wb (m2 g 0 k x) := by
  have e0 : m2 g 0 k x 0 0 = g 0 0 := m2_nk (fun q => h0 q.symm)
  have e1 : m2 g 0 k x 0 1 = g 0 1 := m2_nk (fun q => h1 q.symm)
  refine ⟨by rw [e0]; exact hw.1, by rw [e1]; exact hw.2.1, ?_, fun p hp => ?_, fun h hh => ?_⟩
  · by_cases q : k = 2
    · subst q
      rw [m2_at]
      exact h2 rfl
    · rw [m2_nk (fun z => q z.symm)]
      exact hw.2.2.1
  · rw [e0] at hp
    rw [m2_ne (by decide)]
    exact hw.2.2.2.1 p hp
  · rw [e0, e1, m2_ne (show 2 ≠ 0 by decide), m2_ne (show 3 ≠ 0 by decide), m2_ne (show 4 ≠ 0 by decide), m2_ne (show 5 ≠ 0 by decide)]
    exact hw.2.2.2.2 h hh
theorem Wf_0 {g : Gn} (hw : Wf g) {k x : Nat} (h0 : k ≠ 0) (h1 : k ≠ 1) (h2 : k = 2 → x ≤ 100000) : Wf (m2 g 0 k x) :=
  Wf_of hw (Wb_0 hw.1 h0 h1 h2) (fun i _ => by rw [m2_ne (by decide)]) (fun i _ => by rw [m2_ne (by decide)])
theorem Wf_1 {g : Gn} (hw : Wf g) {p x : Nat} (hx : x ≤ 9) : Wf (m2 g 1 p x) := by
  refine Wf_of hw ⟨by rw [m2_ne (by decide)]; exact hw.1.1, by rw [m2_ne (by decide)]; exact hw.1.2.1, by rw [m2_ne (by decide)]; exact hw.1.2.2.1, fun q hq => ?_, fun h hh => ?_⟩ (fun i _ => by rw [m2_ne (by decide)]) (fun i _ => by rw [m2_ne (by decide)])
  · rw [m2_ne (by decide)] at hq
    by_cases z : q = p
    · subst z
      rw [m2_at]
      exact hx
    · rw [m2_nk z]
      exact hw.1.2.2.2.1 q hq
  · rw [m2_ne (show 0 ≠ 1 by decide), m2_ne (show 2 ≠ 1 by decide), m2_ne (show 3 ≠ 1 by decide), m2_ne (show 4 ≠ 1 by decide), m2_ne (show 5 ≠ 1 by decide)]
    exact hw.1.2.2.2.2 h hh
theorem Wf_2 {g : Gn} (hw : Wf g) {h x : Nat} (hx : x < 4) : Wf (m2 g 2 h x) := by
  refine Wf_of hw ⟨by rw [m2_ne (by decide)]; exact hw.1.1, by rw [m2_ne (by decide)]; exact hw.1.2.1, by rw [m2_ne (by decide)]; exact hw.1.2.2.1, fun q hq => ?_, fun j hj => ?_⟩ (fun i _ => by rw [m2_ne (by decide)]) (fun i _ => by rw [m2_ne (by decide)])
  · rw [m2_ne (by decide)] at hq
    rw [m2_ne (by decide)]
    exact hw.1.2.2.2.1 q hq
  · rw [m2_ne (show 0 ≠ 2 by decide), m2_ne (show 3 ≠ 2 by decide), m2_ne (show 4 ≠ 2 by decide), m2_ne (show 5 ≠ 2 by decide)]
    refine ⟨?_, (hw.1.2.2.2.2 j hj).2⟩
    by_cases z : j = h
    · subst z
      rw [m2_at]
      exact hx
    · rw [m2_nk z]
      exact (hw.1.2.2.2.2 j hj).1
/-- a place set anew: how many lie where -/
theorem ht_set {g g' : Gn} {h x : Nat} (hh : h < 7) (e : ∀ i, i < 7 → g' 4 i = if i = h then x else g 4 i) (p : Nat) : ht g' p + (if g 4 h = p then 1 else 0) = ht g p + (if x = p then 1 else 0) := by
  have h1 : ht g' p = ct (fun i => if i = h then (x == p) else (g 4 i == p)) 7 := ct_cong (fun i hi => by
    rw [e i hi]
    split <;> rfl)
  have h2 := ct_upd (fun i => g 4 i == p) (x == p) (i := h) (n := 7) hh
  rw [h1, ht]
  simp only [beq_iff_eq] at h2
  exact h2
theorem put_4 {g : Gn} {h p i : Nat} : put g h p 4 i = if i = h then p else g 4 i := by
  rw [put]
  by_cases q : i = h
  · subst q
    rw [m2_at, if_pos rfl]
  · rw [m2_nk q, m2_ne (by decide), if_neg q]
theorem put_5 {g : Gn} {h p i : Nat} : put g h p 5 i = if i = h then ht g p else g 5 i := by
  rw [put, m2_ne (by decide)]
  by_cases q : i = h
  · subst q
    rw [m2_at, if_pos rfl]
  · rw [m2_nk q, if_neg q]
theorem put_c {g : Gn} {h p c i : Nat} (h4 : c ≠ 4) (h5 : c ≠ 5) : put g h p c i = g c i := by rw [put, m2_ne h4, m2_ne h5]
theorem Wf_put {g : Gn} (hw : Wf g) {h p : Nat} (hh : h < g 0 1) (hp : p < g 0 0) (h9 : g 4 h = 9) : Wf (put g h p) := by
  have hN := hw.1.2.1
  have hP := hw.1.1
  have h7 : h < 7 := by omega
  have hset := fun q => ht_set (g := g) (g' := put g h p) (x := p) h7 (fun i _ => put_4) q
  have hlt : ht g p < 7 := by
    have z := hset p
    rw [h9, if_neg (by omega), if_pos rfl] at z
    have := ht_le (put g h p) p
    omega
  refine ⟨⟨by rw [put_c (by decide) (by decide)]; exact hP, by rw [put_c (by decide) (by decide)]; exact hN, by rw [put_c (by decide) (by decide)]; exact hw.1.2.2.1, fun q hq => ?_, fun i hi => ?_⟩, fun i hi hi9 => ?_, fun i j hi hj hi9 e1 e2 => ?_⟩
  · rw [put_c (by decide) (by decide)] at hq
    rw [put_c (by decide) (by decide)]
    exact hw.1.2.2.2.1 q hq
  · rw [put_c (c := 2) (by decide) (by decide), put_c (c := 3) (by decide) (by decide), put_c (c := 0) (by decide) (by decide), put_c (c := 0) (by decide) (by decide), put_4, put_5]
    have b := hw.1.2.2.2.2 i hi
    by_cases q : i = h
    · subst q
      rw [if_pos rfl, if_pos rfl]
      exact ⟨b.1, b.2.1, Or.inr ⟨hp, hh, hlt⟩⟩
    · rw [if_neg q, if_neg q]
      exact b
  · rw [put_4] at hi9 ⊢
    rw [put_5]
    by_cases q : i = h
    · subst q
      rw [if_pos rfl, if_pos rfl]
      have z := hset p
      rw [h9, if_neg (by omega), if_pos rfl] at z
      omega
    · rw [if_neg q] at hi9 ⊢
      rw [if_neg q]
      have z := hset (g 4 i)
      have b := hw.2.1 i hi hi9
      rw [h9, if_neg (fun e => hi9 e.symm)] at z
      omega
  · rw [put_4] at hi9 e1
    rw [put_4] at e1
    rw [put_5, put_5] at e2
    by_cases q : i = h
    · by_cases q2 : j = h
      · omega
      · rw [if_pos q, if_neg q2] at e1 e2
        have b := hw.2.1 j hj (by omega)
        rw [← e1] at b
        omega
    · rw [if_neg q] at hi9 e1 e2
      by_cases q2 : j = h
      · rw [if_pos q2] at e1 e2
        have b := hw.2.1 i hi hi9
        rw [e1] at b
        omega
      · rw [if_neg q2] at e1 e2
        exact hw.2.2 i j hi hj hi9 e1 e2
theorem take_4 {g : Gn} {h i : Nat} : take g h 4 i = if i = h then 9 else g 4 i := by
  rw [take]
  by_cases q : i = h
  · subst q
    rw [m2_at, if_pos rfl]
  · rw [m2_nk q, if_neg q]
    simp [tkj]
theorem take_5 {g : Gn} {h i : Nat} (hi : i < 7) : take g h 5 i = if ab g h i = true then g 5 i - 1 else g 5 i := by
  rw [take, m2_ne (by decide)]
  simp [tkj, hi]
theorem take_c {g : Gn} {h c i : Nat} (h4 : c ≠ 4) (h5 : c ≠ 5) : take g h c i = g c i := by
  rw [take, m2_ne h4]
  simp [tkj, h5]
theorem ab_iff {g : Gn} {h i : Nat} : ab g h i = true ↔ g 4 h ≠ 9 ∧ g 4 i = g 4 h ∧ g 5 h < g 5 i := by
  simp [ab]
theorem Wf_take {g : Gn} (hw : Wf g) {h : Nat} (hh : h < 7) (h9 : g 4 h ≠ 9) : Wf (take g h) := by
  have hset := fun q => ht_set (g := g) (g' := take g h) (x := 9) hh (fun i _ => take_4) q
  have hP := hw.1.1
  have bh := (hw.1.2.2.2.2 h hh).2.2
  have z := hset (g 4 h)
  rw [if_pos rfl, if_neg (by omega)] at z
  refine ⟨⟨by rw [take_c (by decide) (by decide)]; exact hP, by rw [take_c (by decide) (by decide)]; exact hw.1.2.1, by rw [take_c (by decide) (by decide)]; exact hw.1.2.2.1, fun q hq => ?_, fun i hi => ?_⟩, fun i hi hi9 => ?_, fun i j hi hj hi9 e1 e2 => ?_⟩
  · rw [take_c (by decide) (by decide)] at hq
    rw [take_c (by decide) (by decide)]
    exact hw.1.2.2.2.1 q hq
  · rw [take_c (c := 2) (by decide) (by decide), take_c (c := 3) (by decide) (by decide), take_c (c := 0) (by decide) (by decide), take_c (c := 0) (by decide) (by decide), take_4, take_5 hi]
    have b := hw.1.2.2.2.2 i hi
    refine ⟨b.1, b.2.1, ?_⟩
    by_cases q : i = h
    · rw [if_pos q]
      exact Or.inl rfl
    · rw [if_neg q]
      rcases b.2.2 with e | e
      · exact Or.inl e
      · refine Or.inr ⟨e.1, e.2.1, ?_⟩
        split <;> omega
  · rw [take_4] at hi9 ⊢
    by_cases q : i = h
    · rw [if_pos q] at hi9
      exact absurd rfl hi9
    · rw [if_neg q] at hi9 ⊢
      rw [take_5 hi]
      have b := hw.2.1 i hi hi9
      by_cases e : g 4 i = g 4 h
      · rw [e] at b ⊢
        by_cases a1 : ab g h i = true
        · rw [if_pos a1]
          have := ab_iff.mp a1
          omega
        · rw [if_neg a1]
          have : ¬ g 5 h < g 5 i := fun c => a1 (ab_iff.mpr ⟨h9, e, c⟩)
          have : g 5 i ≠ g 5 h := fun c => q (hw.2.2 i h hi hh hi9 e c)
          have := hw.2.1 h hh h9
          omega
      · have y := hset (g 4 i)
        rw [if_neg (fun c => e c.symm), if_neg (fun c => hi9 c.symm)] at y
        have : ab g h i = false := by
          simp only [ab, Bool.and_eq_false_iff]
          right
          left
          simp [e]
        rw [this]
        simp
        omega
  · rw [take_4] at hi9 e1
    rw [take_4] at e1
    rw [take_5 hi, take_5 hj] at e2
    by_cases q : i = h
    · rw [if_pos q] at hi9
      exact absurd rfl hi9
    · rw [if_neg q] at hi9 e1
      by_cases q2 : j = h
      · rw [if_pos q2] at e1
        exact absurd e1 hi9
      · rw [if_neg q2] at e1
        have d1 : g 4 i = g 4 h → g 5 i ≠ g 5 h := fun e c => q (hw.2.2 i h hi hh hi9 e c)
        have d2 : g 4 j = g 4 h → g 5 j ≠ g 5 h := fun e c => q2 (hw.2.2 j h hj hh (by omega) e c)
        have : g 5 i = g 5 j := by
          by_cases a1 : ab g h i = true
          · by_cases a2 : ab g h j = true
            · rw [if_pos a1, if_pos a2] at e2
              have := ab_iff.mp a1
              have := ab_iff.mp a2
              omega
            · rw [if_pos a1, if_neg a2] at e2
              have w := ab_iff.mp a1
              have : ¬ g 5 h < g 5 j := fun c => a2 (ab_iff.mpr ⟨h9, by omega, c⟩)
              have := d2 (by omega)
              omega
          · by_cases a2 : ab g h j = true
            · rw [if_neg a1, if_pos a2] at e2
              have w := ab_iff.mp a2
              have : ¬ g 5 h < g 5 i := fun c => a1 (ab_iff.mpr ⟨h9, by omega, c⟩)
              have := d1 (by omega)
              omega
            · rw [if_neg a1, if_neg a2] at e2
              exact e2
        exact hw.2.2 i j hi hj hi9 e1 this
theorem ab_top {g : Gn} (hw : Wf g) {p : Nat} (hp : p < 9) (h : tp g p ≠ 7) {i : Nat} (hi : i < 7) : ab g (tp g p) i = false := by
  have ht := tp_is h
  by_cases q : ab g (tp g p) i = true
  · have w := ab_iff.mp q
    have b := hw.2.1 i hi (by omega)
    rw [w.2.1, ht.2.2.1] at b
    omega
  · simpa using q
theorem tkj_none {g : Gn} {h : Nat} (hn : ∀ i, i < 7 → ab g h i = false) : tkj g h 7 = g := by
  funext c i
  rw [tkj]
  by_cases q : c = 5 ∧ i < 7 ∧ ab g h i = true
  · rw [hn i q.2.1] at q
    exact absurd q.2.2 (by decide)
  · rw [if_neg q]
theorem y1_take {g : Gn} (hw : Wf g) (hP : 0 < g 0 0) : y1 g = m2 (if th g then take g (tp g (g 0 2 % g 0 0)) else g) 0 2 (g 0 2 + 1) := by
  rw [y1]
  by_cases q : th g = true
  · have h7 : tp g (g 0 2 % g 0 0) ≠ 7 := by
      simp only [th, Bool.and_eq_true, Bool.not_eq_true', beq_eq_false_iff_ne] at q
      exact q.1
    have hp := Nat.mod_lt (g 0 2) hP
    have h5 := hw.1.1
    rw [if_pos q, if_pos q, take, tkj_none (fun i hi => ab_top hw (by omega) h7 hi)]
  · rw [if_neg q, if_neg q]
theorem Wf_y1 {g : Gn} (hw : Wf g) (hP : 0 < g 0 0) (hy : g 0 2 < 100000) : Wf (y1 g) := by
  rw [y1_take hw hP]
  by_cases q : th g = true
  · have h7 : tp g (g 0 2 % g 0 0) ≠ 7 := by
      simp only [th, Bool.and_eq_true, Bool.not_eq_true', beq_eq_false_iff_ne] at q
      exact q.1
    have ht := tp_is h7
    have hp := Nat.mod_lt (g 0 2) hP
    have h5 := hw.1.1
    rw [if_pos q]
    exact Wf_0 (Wf_take hw ht.2.1 (by omega)) (by decide) (by decide) (fun _ => by omega)
  · rw [if_neg q]
    exact Wf_0 hw (by decide) (by decide) (fun _ => by omega)
theorem Wf_yN {g : Gn} (hw : Wf g) (hP : 0 < g 0 0) : ∀ n, g 0 2 + n ≤ 100000 → Wf (yN g n)
  | 0, _ => hw
  | n + 1, h => by
    rw [yN]
    exact Wf_y1 (Wf_yN hw hP n (by omega)) (by rw [yN_0 g (by decide)]; exact hP) (by rw [yN_y]; omega)
