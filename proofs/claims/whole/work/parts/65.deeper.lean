/-- dug one deeper -/
def dg (g : Gn) (p : Nat) : Gn := m2 g 1 p (g 1 p + 1)
/-- the best plot to dig among the first j (9: none), and by how much -/
def dp (g : Gn) : Nat → Nat × Int
  | 0 => (9, -1)
  | j + 1 => if g 1 j < 9 ∧ (dp g j).2 < (Vb (dg g j) : Int) then (j, (Vb (dg g j) : Int)) else dp g j
theorem dp_b {g : Gn} (hw : Wf g) : ∀ j, j ≤ 9 → (dp g j).1 ≤ 9 ∧ ((dp g j).1 = 9 → (dp g j).2 = -1) ∧ ((dp g j).1 ≠ 9 → 0 ≤ (dp g j).2) ∧ (dp g j).2 ≤ 140 ∧ -1 ≤ (dp g j).2
  | 0, _ => ⟨Nat.le_refl _, fun _ => rfl, fun z => absurd rfl z, show (-1 : Int) ≤ 140 by decide, Int.le_refl _⟩
  | j + 1, hj => by
    have ih := dp_b hw j (by omega)
    rw [dp]
    by_cases q : g 1 j < 9 ∧ (dp g j).2 < (Vb (dg g j) : Int)
    · rw [if_pos q]
      have hv := Vb_le (Wf_1 hw (p := j) (x := g 1 j + 1) (by omega)).1
      have hv : Vb (dg g j) ≤ 140 := hv
      exact ⟨show j ≤ 9 by omega, fun z => absurd (show j = 9 from z) (by omega), fun _ => show 0 ≤ (Vb (dg g j) : Int) by omega, show (Vb (dg g j) : Int) ≤ 140 by omega, show -1 ≤ (Vb (dg g j) : Int) by omega⟩
    · rw [if_neg q]
      exact ih
theorem op_deeper (x : Int32) : Op (fX6_deeper 0 x) (fX7_deeper 93 x) := by
  refine Op_q (fun z hz => ?_)
  have hw := hz.1.1
  have hN7 := hw.1.2.1
  have hP5 := hw.1.1
  have hP0 := hz.1.2.1
  by_cases q : x < 0 ∨ 1 < x
  · refine ⟨-1, C6_p (fun m l hc => ?_), C7_p (fun m l hc => ?_)⟩
    · rw [fX6_deeper, grd_t X_o, c_within, bS, if_pos q, if_pos rfl]
    · rw [fX7_deeper, grd_t M_o, m_in, bS, if_pos q, if_pos rfl]
  obtain ⟨v, _, hv, rfl⟩ := inr (a := 0) (b := 1) (by decide) (by decide) q
  have hvc : v = 0 ∨ v = 1 := by omega
  have hD := fun j hj => dp_b (g := zg z) hw j hj
  refine ⟨if v = 0 then plI (dp (zg z) (zg z 0 0)).1 else if (dp (zg z) (zg z 0 0)).1 = 9 then -4 else iI (dp (zg z) (zg z 0 0)).2, C6_q (fun m l hc => ?_), C7_q (fun m l hc => ?_)⟩
  · have key : ∃ m' l', fX6_deeper_19 FU 0 (nI v) (-4) (-1) 0 (Mk m l) = some (if v = 0 then plI (dp (zg z) (zg z 0 0)).1 else if (dp (zg z) (zg z 0 0)).1 = 9 then -4 else iI (dp (zg z) (zg z 0 0)).2, Mk m' l') ∧ FQ m m' ∧ FQl l l' := by
      refine lpR (fun n j (s : Int32 × Int32 × (Nat → Nat → Int32) × (Nat → Nat → Int64)) => fX6_deeper_19 n 0 (nI v) s.1 s.2.1 (nI j) (Mk s.2.2.1 s.2.2.2)) (fun j s => s.1 = plI (dp (zg z) j).1 ∧ s.2.1 = iI (dp (zg z) j).2 ∧ FQ m s.2.2.1 ∧ FQl l s.2.2.2) (fun o => ∃ m' l', o = some (if v = 0 then plI (dp (zg z) (zg z 0 0)).1 else if (dp (zg z) (zg z 0 0)).1 = 9 then -4 else iI (dp (zg z) (zg z 0 0)).2, Mk m' l') ∧ FQ m m' ∧ FQl l l') (zg z 0 0) ?_ ?_ FU 0 (-4, -1, m, l) (by omega) (by have := FU_big; omega) ⟨rfl, iI_m1.symm, FQ.rf, FQl.rf⟩
      · intro n j s hj hI
        left
        obtain ⟨i1, i2, i3, i4⟩ := hI
        have hcs := CG_FQ hc.1 i3 i4
        have dj := hD j (by omega)
        rw [fX6_deeper_19, X_r1, bS, G_gI isG_4, bS, hcs.1 0 (by decide), if_neg (nI_ge hj (by omega)), bS, c_roomOf isG_4 hcs hw.1 hj, bS]
        by_cases q9 : zg z 1 j < 9
        · obtain ⟨m1, l1, e1, g1, f1, fl1⟩ := c_trial hcs hP5
          obtain ⟨m3, e3, g3, f3⟩ := c_deepen isG_10 g1 hw.1 hj
          have hwd : Wf (dg (zg z) j) := Wf_1 hw (by omega)
          obtain ⟨m4, e4, f4, _⟩ := c_mostOf isG_10 g3 hwd.1 (bar := (dp (zg z) j).2) dj.2.2.2.2 dj.2.2.2.1
          have hB : (Bst (dg (zg z) j) (dp (zg z) j).2).1 ≤ 1000 ∧ -1000 ≤ (Bst (dg (zg z) j) (dp (zg z) j).2).1 := by
            have h1 := ((Bst_le (g := dg (zg z) j) (bar := (dp (zg z) j).2)).mp (Int.le_refl _)).1
            have h2 := (Bst_le (g := dg (zg z) j) (bar := (dp (zg z) j).2) (x := 1000)).mpr ⟨by omega, by have := Vb_le hwd.1; omega⟩
            omega
          have ec : iI (Bst (dg (zg z) j) (dp (zg z) j).2).1 ≤ iI (dp (zg z) j).2 ↔ (Vb (dg (zg z) j) : Int) ≤ (dp (zg z) j).2 := by
            rw [iI_le hB.2 hB.1 (by omega) (by omega), Bst_le]
            exact ⟨fun h => h.2, fun h => ⟨Int.le_refl _, h⟩⟩
          have fq4 : FQ m m4 := i3.tr (f1.tr ((FQ_Fr f3).tr (FQ_FJ f4)))
          have ef : (if nI (zg z 1 j) ≥ 9 then (1 : Nat) else 0) = 0 := if_neg (by rw [show (9 : Int32) = nI 9 from rfl]; exact nI_ge q9 (by decide))
          by_cases qv : (Vb (dg (zg z) j) : Int) ≤ (dp (zg z) j).2
          · have ed : dp (zg z) (j + 1) = dp (zg z) j := by rw [dp, if_neg (by omega)]
            refine ⟨(s.1, s.2.1, m4, l1), ⟨by rw [ed]; exact i1, by rw [ed]; exact i2, fq4, i4.tr fl1⟩, ?_⟩
            have e4' : fX2_mostOf 84 10 s.2.1 (Mk m3 l1) = some (iI (Bst (dg (zg z) j) (dp (zg z) j).2).1, Mk m4 l1) := by rw [i2]; exact e4
            have ec' : iI (Bst (dg (zg z) j) (dp (zg z) j).2).1 ≤ s.2.1 := by rw [i2]; exact ec.mpr qv
            simp only [if_neg (show ¬ (9 : Int32) ≤ nI (zg z 1 j) by rw [show (9 : Int32) = nI 9 from rfl]; exact nI_ge q9 (by decide)), X_r2, X_r1, X_r6, bS, e1, e3, e4', if_pos ec', nI_1]
          · have eV : (Bst (dg (zg z) j) (dp (zg z) j).2).1 = (Vb (dg (zg z) j) : Int) := by
              have h1 := (Bst_le (g := dg (zg z) j) (bar := (dp (zg z) j).2) (x := (Vb (dg (zg z) j) : Int))).mpr ⟨by omega, Int.le_refl _⟩
              have h2 := ((Bst_le (g := dg (zg z) j) (bar := (dp (zg z) j).2)).mp (Int.le_refl _)).2
              omega
            have ed : dp (zg z) (j + 1) = (j, (Vb (dg (zg z) j) : Int)) := by rw [dp, if_pos ⟨q9, by omega⟩]
            refine ⟨(nI j, iI (Vb (dg (zg z) j) : Int), m4, l1), ⟨by rw [ed, plI, if_neg (show ¬ j = 9 by omega)], by rw [ed], fq4, i4.tr fl1⟩, ?_⟩
            have e4' : fX2_mostOf 84 10 s.2.1 (Mk m3 l1) = some (iI (Bst (dg (zg z) j) (dp (zg z) j).2).1, Mk m4 l1) := by rw [i2]; exact e4
            have ec' : ¬ iI (Bst (dg (zg z) j) (dp (zg z) j).2).1 ≤ s.2.1 := by rw [i2]; exact fun z => qv (ec.mp z)
            simp only [if_neg (show ¬ (9 : Int32) ≤ nI (zg z 1 j) by rw [show (9 : Int32) = nI 9 from rfl]; exact nI_ge q9 (by decide)), X_r2, X_r1, X_r6, bS, e1, e3, e4', if_neg ec', nI_1]
            rw [eV]
        · have ed : dp (zg z) (j + 1) = dp (zg z) j := by rw [dp, if_neg (fun z => q9 z.1)]
          have h9 := hw.1.2.2.2.1 j hj
          refine ⟨s, ⟨by rw [ed]; exact i1, by rw [ed]; exact i2, i3, i4⟩, ?_⟩
          rw [if_pos (show (9 : Int32) ≤ nI (zg z 1 j) by rw [show (9 : Int32) = nI 9 from rfl]; exact nI_le (by omega) (by omega)), nI_1]
      · intro n s hI
        obtain ⟨i1, i2, i3, i4⟩ := hI
        have hcs := CG_FQ hc.1 i3 i4
        have dj := hD (zg z 0 0) (by omega)
        refine ⟨s.2.2.1, s.2.2.2, ?_, i3, i4⟩
        rw [fX6_deeper_19, X_r1, bS, G_gI isG_4, bS, hcs.1 0 (by decide), if_pos (nI_le (Nat.le_refl _) (by omega)), i1, i2]
        rcases hvc with rfl | rfl
        · rw [if_pos (show nI 0 = 0 from rfl), if_pos rfl]
        · rw [if_neg (show ¬ nI 1 = 0 by decide), if_neg (show ¬ 1 = 0 by decide)]
          by_cases y : (dp (zg z) (zg z 0 0)).1 = 9
          · rw [if_pos ((plI_4 dj.1).mpr y), if_pos y, y]
            rfl
          · rw [if_neg (fun e => y ((plI_4 dj.1).mp e)), if_neg y]
    obtain ⟨m', l', e, h1, h2⟩ := key
    refine ⟨m', l', ?_, h1, h2⟩
    rw [fX6_deeper, grd_t X_o, c_within, bS, if_neg q, if_neg n0, e]
  · have key : ∃ m', fX7_deeper_20 FU 93 (nI v) (-4) (-4) 0 (Mk m l) = some (if v = 0 then plI (dp (zg z) (zg z 0 0)).1 else if (dp (zg z) (zg z 0 0)).1 = 9 then -4 else iI (dp (zg z) (zg z 0 0)).2, Mk m' l) ∧ FN m m' ∧ MT 95 m' (zg z) ∧ MS m' (zg z) := by
      refine lpR (fun n j (s : Int32 × Int32 × (Nat → Nat → Int32)) => fX7_deeper_20 n 93 (nI v) s.1 s.2.1 (nI j) (Mk s.2.2 l)) (fun j s => s.1 = plI (dp (zg z) j).1 ∧ s.2.1 = (if (dp (zg z) j).1 = 9 then -4 else iI (dp (zg z) j).2) ∧ FN m s.2.2 ∧ MT 95 s.2.2 (zg z) ∧ MS s.2.2 (zg z)) (fun o => ∃ m', o = some (if v = 0 then plI (dp (zg z) (zg z 0 0)).1 else if (dp (zg z) (zg z 0 0)).1 = 9 then -4 else iI (dp (zg z) (zg z 0 0)).2, Mk m' l) ∧ FN m m' ∧ MT 95 m' (zg z) ∧ MS m' (zg z)) (zg z 0 0) ?_ ?_ FU 0 (-4, -4, m) (by omega) (by have := FU_big; omega) ⟨rfl, rfl, FN.rf, hc.1.1, hc.1.2⟩
      · intro n j s hj hI
        left
        obtain ⟨i1, i2, i3, i4, i5⟩ := hI
        have dj := hD j (by omega)
        have er : s.2.2 97 (2 + j) = nI (zg z 1 j) := i5.2.2.1 j hj
        rw [fX7_deeper_20, M_r2, bS, a95_0, bS, i4.1, if_neg (nI_ge hj (by omega)), M_r4, bS, ad2, a97 (by omega), bS, er]
        by_cases q9 : zg z 1 j < 9
        · have hwd : Wf (dg (zg z) j) := Wf_1 hw (by omega)
          have s1 : MS (m2 s.2.2 97 (2 + j) (nI (zg z 1 j + 1))) (dg (zg z) j) := MS_2 i5 (by omega)
          have t1 : MT 95 (m2 s.2.2 97 (2 + j) (nI (zg z 1 j + 1))) (dg (zg z) j) := MT_S (MT_F1 i4 F1.st (by decide)) (Sm_m2 (by omega))
          obtain ⟨m4, e4, f4, t4, s4, _⟩ := m_packed (l := l) s1 t1 hwd (by rw [dg, m2_ne (by decide)]; exact hP0)
          have er4 : m4 97 (2 + j) = nI (zg z 1 j + 1) := by
            have := s4.2.2.1 j (by rw [dg, m2_ne (by decide)]; exact hj)
            rw [dg, m2_at] at this
            exact this
          have eg : m2 (dg (zg z) j) 1 j (zg z 1 j) = zg z := by
            funext c k
            simp only [m2, dg]
            by_cases e : c = 1 ∧ k = j
            · rw [if_pos e, e.1, e.2]
            · rw [if_neg e, if_neg e]
          have s5 : MS (m2 m4 97 (2 + j) (nI (zg z 1 j))) (zg z) := by
            have := MS_2 (x := zg z 1 j) (p := j) s4 (by omega)
            rw [eg] at this
            exact this
          have t5 : MT 95 (m2 m4 97 (2 + j) (nI (zg z 1 j))) (zg z) := by
            have := MT_S (g' := m2 (dg (zg z) j) 1 j (zg z 1 j)) (MT_F1 t4 (F1.st (k := 2 + j) (x := nI (zg z 1 j))) (show 95 ≠ 97 by decide)) (Sm_m2 (by omega))
            rw [eg] at this
            exact this
          have fn5 : FN m (m2 m4 97 (2 + j) (nI (zg z 1 j))) := i3.tr ((FN_F1 F1.st (by omega)).tr (f4.tr (FN_F1 F1.st (by omega))))
          have hVl := Vb_le hwd.1
          have ec : iI (Vb (dg (zg z) j) : Int) ≤ s.2.1 ↔ (Vb (dg (zg z) j) : Int) ≤ (dp (zg z) j).2 := by
            rw [i2]
            by_cases y : (dp (zg z) j).1 = 9
            · rw [if_pos y, show (-4 : Int32) = iI (-4) by decide, iI_le (by omega) (by omega) (by omega) (by omega), dj.2.1 y]
              omega
            · rw [if_neg y, iI_le (by omega) (by omega) (by omega) (by omega)]
          have q99 : ¬ (9 : Int32) ≤ nI (zg z 1 j) := by rw [show (9 : Int32) = nI 9 from rfl]; exact nI_ge q9 (by decide)
          rw [Bst_V] at e4
          by_cases qv : (Vb (dg (zg z) j) : Int) ≤ (dp (zg z) j).2
          · have ed : dp (zg z) (j + 1) = dp (zg z) j := by rw [dp, if_neg (by omega)]
            refine ⟨(s.1, s.2.1, m2 m4 97 (2 + j) (nI (zg z 1 j))), ⟨by rw [ed]; exact i1, by rw [ed]; exact i2, fn5, t5, s5⟩, ?_⟩
            rw [if_neg q99, bS, a97 (by omega), bS, er, nI_1, b97 (by omega), bS, e4, bS, M_r4, bS, a97 (by omega), bS, er4, nI_pred, b97 (by omega), bS, if_pos (ec.mpr qv), fX7_deeper_89, if_pos (ec.mpr qv), nI_1]
          · have ed : dp (zg z) (j + 1) = (j, (Vb (dg (zg z) j) : Int)) := by rw [dp, if_pos ⟨q9, by omega⟩]
            refine ⟨(nI j, iI (Vb (dg (zg z) j) : Int), m2 m4 97 (2 + j) (nI (zg z 1 j))), ⟨by rw [ed, plI, if_neg (show ¬ j = 9 by omega)], by rw [ed, if_neg (show ¬ j = 9 by omega)], fn5, t5, s5⟩, ?_⟩
            rw [if_neg q99, bS, a97 (by omega), bS, er, nI_1, b97 (by omega), bS, e4, bS, M_r4, bS, a97 (by omega), bS, er4, nI_pred, b97 (by omega), bS, if_neg (fun z => qv (ec.mp z)), fX7_deeper_89, if_neg (fun z => qv (ec.mp z)), nI_1]
        · have ed : dp (zg z) (j + 1) = dp (zg z) j := by rw [dp, if_neg (fun z => q9 z.1)]
          have h9 := hw.1.2.2.2.1 j hj
          refine ⟨s, ⟨by rw [ed]; exact i1, by rw [ed]; exact i2, i3, i4, i5⟩, ?_⟩
          rw [if_pos (show (9 : Int32) ≤ nI (zg z 1 j) by rw [show (9 : Int32) = nI 9 from rfl]; exact nI_le (by omega) (by omega)), nI_1]
      · intro n s hI
        obtain ⟨i1, i2, i3, i4, i5⟩ := hI
        refine ⟨s.2.2, ?_, i3, i4, i5⟩
        rw [fX7_deeper_20, M_r2, bS, a95_0, bS, i4.1, if_pos (nI_le (Nat.le_refl _) (by omega)), i1, i2]
        rcases hvc with rfl | rfl
        · rw [if_pos (show nI 0 = 0 from rfl), if_pos rfl]
        · rw [if_neg (show ¬ nI 1 = 0 by decide), if_neg (show ¬ 1 = 0 by decide)]
    obtain ⟨m', e, h1⟩ := key
    refine ⟨m', ?_, h1⟩
    rw [fX7_deeper, grd_t M_o, m_in, bS, if_neg q, if_neg n0, e]
