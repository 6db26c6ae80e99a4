/-! the class reads all -/
def FR (m m' : Nat → Nat → Int32) : Prop := ∀ c, c ≠ 3 → (c < 10 ∨ (15 < c ∧ c < 84) ∨ 92 < c) → m' c = m c
section RCa
variable {m m' m1 : Nat → Nat → Int32} {l l' : Nat → Nat → Int64} {g : Gn} {n : Nat} {f : Nat → Int32} {c : Nat → Nat} {z : Zt}
theorem FR.rf : FR m m := fun _ _ _ => rfl
theorem FR.tr (h1 : FR m m1) (h2 : FR m1 m') : FR m m' := fun c q1 q2 => (h2 c q1 q2).trans (h1 c q1 q2)
theorem FR_3 (h : F1 3 m m') : FR m m' := fun c q1 _ => h c q1
theorem FR_G (h : Fr 10 m m') : FR m m' := fun c _ q2 => h c (by omega)
theorem CI_FR (h : CI z m l) (hf : FR m m') (hl : FQl l l') : CI z m' l' := by
  obtain ⟨h1, h2, h3, h4, h5⟩ := h
  refine ⟨CG_eq h1 (fun c q1 q2 => hf c (by omega) (by omega)) (hl 4 (by decide)), Sh_eq isS_p h2 (fun c q1 q2 => hf c (by omega) (by omega)) (fun c q1 q2 => hl c (by omega)), Sh_eq isS_k h3 (fun c q1 q2 => hf c (by omega) (by omega)) (fun c q1 q2 => hl c (by omega)), CTx_eq h4 (hf 1 (by omega) (by omega)) (hf 2 (by omega) (by omega)), CSi_eq h5 (fun c q1 q2 => hf c (by omega) (by omega))⟩
theorem CTx_FR (h : CTx m n f) (hf : FR m m') : CTx m' n f := CTx_eq h (hf 1 (by omega) (by omega)) (hf 2 (by omega) (by omega))
theorem CG_3c {x : Int32} {t : Nat} (hc : CG 10 m l g) : CG 10 (m2 m 3 t x) l g := CG_eq hc (fun c q1 q2 => m2_ne (by omega)) rfl
theorem a3_0 : aI 8 3 0 (Mk m l) = some (m 3 0) := a3 (j := 0) (by decide)
theorem a3_1 : aI 8 3 1 (Mk m l) = some (m 3 1) := a3 (j := 1) (by decide)
theorem a3_2 : aI 8 3 2 (Mk m l) = some (m 3 2) := a3 (j := 2) (by decide)
theorem FU4 : FU = 999999996 + 1 + 1 + 1 + 1 := rfl
theorem c_rd1 (hl : Lt' n f c) (ht : CTx m n f) {i : Nat} (hi : i < 700) : (rd c i 59 = none ∧ ∃ m', fX3_readItem_23 FU 1 1 (nI i) 0 (Mk m l) = some (-4, Mk m' l) ∧ F1 3 m m') ∨ ∃ a, rd c i 59 = some a ∧ fX3_readItem_23 FU 1 1 (nI i) 0 (Mk m l) = some (nI a.2, Mk (m2 m 3 0 (nI a.1)) l) := by
  rw [FU4]
  rcases c_step (l := l) (u := 999999996 + 1 + 1 + 1) (K := 1) (t := 0) hl ht (by decide) (by decide) (show i < 800 by omega) with ⟨h1, m', e, h2⟩ | ⟨a, h1, e⟩
  · exact Or.inl ⟨h1, m', e, h2⟩
  · refine Or.inr ⟨a, h1, ?_⟩
    exact e.trans (c_last (K := 1) (by decide))
theorem c_rd2 (hl : Lt' n f c) (ht : CTx m n f) {i : Nat} (hi : i < 700) : (((rd c i 44).bind fun a => rd c a.2 59) = none ∧ ∃ m', fX3_readItem_23 FU 1 2 (nI i) 0 (Mk m l) = some (-4, Mk m' l) ∧ F1 3 m m') ∨ ∃ a b, rd c i 44 = some a ∧ rd c a.2 59 = some b ∧ fX3_readItem_23 FU 1 2 (nI i) 0 (Mk m l) = some (nI b.2, Mk (m2 (m2 m 3 0 (nI a.1)) 3 1 (nI b.1)) l) := by
  rw [FU4]
  rcases c_step (l := l) (u := 999999996 + 1 + 1 + 1) (K := 2) (t := 0) hl ht (by decide) (by decide) (show i < 800 by omega) with ⟨h1, m', e, h2⟩ | ⟨a, h1, e⟩
  · exact Or.inl ⟨by rw [show rd c i 44 = none from h1]; rfl, m', e, h2⟩
  · have hs := rd_some h1
    rcases c_step (l := l) (u := 999999996 + 1 + 1) (K := 2) (t := 1) hl (CTx_3 (t := 0) (x := nI a.1) ht) (by decide) (by decide) (show a.2 < 800 by omega) with ⟨h2, m', e2, h3⟩ | ⟨b, h2, e2⟩
    · refine Or.inl ⟨?_, m', e.trans e2, F1.tr F1.st h3⟩
      rw [show rd c i 44 = some a from h1, Option.bind_some]
      exact h2
    · refine Or.inr ⟨a, b, h1, h2, ?_⟩
      exact (e.trans e2).trans (c_last (K := 2) (by decide))
theorem c_rd3 (hl : Lt' n f c) (ht : CTx m n f) {i : Nat} (hi : i < 700) : (((rd c i 44).bind fun a => (rd c a.2 44).bind fun b => rd c b.2 59) = none ∧ ∃ m', fX3_readItem_23 FU 1 3 (nI i) 0 (Mk m l) = some (-4, Mk m' l) ∧ F1 3 m m') ∨ ∃ a b d, rd c i 44 = some a ∧ rd c a.2 44 = some b ∧ rd c b.2 59 = some d ∧ fX3_readItem_23 FU 1 3 (nI i) 0 (Mk m l) = some (nI d.2, Mk (m2 (m2 (m2 m 3 0 (nI a.1)) 3 1 (nI b.1)) 3 2 (nI d.1)) l) := by
  rw [FU4]
  rcases c_step (l := l) (u := 999999996 + 1 + 1 + 1) (K := 3) (t := 0) hl ht (by decide) (by decide) (show i < 800 by omega) with ⟨h1, m', e, h2⟩ | ⟨a, h1, e⟩
  · exact Or.inl ⟨by rw [show rd c i 44 = none from h1]; rfl, m', e, h2⟩
  · have hs := rd_some h1
    rcases c_step (l := l) (u := 999999996 + 1 + 1) (K := 3) (t := 1) hl (CTx_3 (t := 0) (x := nI a.1) ht) (by decide) (by decide) (show a.2 < 800 by omega) with ⟨h2, m', e2, h3⟩ | ⟨b, h2, e2⟩
    · refine Or.inl ⟨?_, m', e.trans e2, F1.tr F1.st h3⟩
      rw [show rd c i 44 = some a from h1, Option.bind_some, show rd c a.2 44 = none from h2]
      rfl
    · have hs2 := rd_some h2
      rcases c_step (l := l) (u := 999999996 + 1) (K := 3) (t := 2) hl (CTx_3 (t := 1) (x := nI b.1) (CTx_3 (t := 0) (x := nI a.1) ht)) (by decide) (by decide) (show b.2 < 800 by omega) with ⟨h3, m', e3, h4⟩ | ⟨d, h3, e3⟩
      · refine Or.inl ⟨?_, m', (e.trans e2).trans e3, F1.tr F1.st (F1.tr F1.st h4)⟩
        rw [show rd c i 44 = some a from h1, Option.bind_some, show rd c a.2 44 = some b from h2, Option.bind_some]
        exact h3
      · refine Or.inr ⟨a, b, d, h1, h2, h3, ?_⟩
        exact ((e.trans e2).trans e3).trans (c_last (K := 3) (by decide))
/-- what one item comes to in the class -/
def Ci (m : Nat → Nat → Int32) (l : Nat → Nat → Int64) (c : Nat → Nat) (g : Gn) (i u : Nat) : Prop := (itm c g i = none ∧ ∃ m' l', fX3_readInto_6 (u + 1) 1 10 (nI i) (Mk m l) = some (nI i, Mk m' l') ∧ FR m m' ∧ FQl l l') ∨ ∃ a, itm c g i = some a ∧ Wf a.1 ∧ a.1 0 2 = g 0 2 ∧ ∃ m' l', fX3_readInto_6 (u + 1) 1 10 (nI i) (Mk m l) = fX3_readInto_6 u 1 10 (nI a.2) (Mk m' l') ∧ CG 10 m' l' a.1 ∧ FR m m' ∧ FQl l l'
theorem c_item (hl : Lt' n f c) (ht : CTx m n f) (hc : CG 10 m l g) (hw : Wf g) {i u : Nat} (hi : i < n) : Ci m l c g i u := by
  have hn := hl.1
  have h5 := hw.1.1
  have h7 := hw.1.2.1
  have hci := c_lt hl i
  have hne : ¬ nI n ≤ nI i := nI_ge hi (by omega)
  have hm4 : (-4 : Int32) ≤ nI i := by
    rw [Int32.le_iff_toInt_le, nI_toInt (by omega)]
    have : (-4 : Int32).toInt = -4 := by decide
    omega
  have hcl : ∀ e : Nat, e < 1000 → (nI (c i) = nI e ↔ c i = e) := fun e he => nI_inj (by omega) (by omega)
  have h102 := hcl 102 (by decide)
  have h103 := hcl 103 (by decide)
  have h104 := hcl 104 (by decide)
  have h119 := hcl 119 (by decide)
  have estart : fX3_readInto_6 (u + 1) 1 10 (nI i) (Mk m l) = (fX3_readItem 1 (nI i) (Mk m l)).bind fun q6 => (if q6.1 ≤ nI i then some (nI i, q6.2) else (fX3_letterAt 1 (nI i) q6.2).bind fun q9 => (fX3_tell 1 10 q9.1 q9.2).bind fun q11 => (if q11.1 = 0 then some (nI i, q11.2) else (fX3_readInto_6 u) 1 10 q6.1 q11.2)) := by
    rw [fX3_readInto_6, T_gI, bS, ht.1, if_neg hne]
  have eitem : fX3_readItem 1 (nI i) (Mk m l) = (if c i = 102 then fX3_readItem_23 FU 1 1 (nI (i + 1)) 0 (Mk m l) else if c i = 103 then fX3_readItem_23 FU 1 1 (nI (i + 1)) 0 (Mk m l) else if c i = 104 then fX3_readItem_23 FU 1 3 (nI (i + 1)) 0 (Mk m l) else if c i = 119 then fX3_readItem_23 FU 1 2 (nI (i + 1)) 0 (Mk m l) else some (-4, Mk m l)) := by
    rw [fX3_readItem, grd_t T_o, c_letterAt hl ht (by omega), bS, fX3_numbersOf, show (102 : Int32) = nI 102 from rfl, show (103 : Int32) = nI 103 from rfl, show (104 : Int32) = nI 104 from rfl, show (119 : Int32) = nI 119 from rfl, nI_1]
    by_cases q1 : c i = 102
    · rw [if_pos (h102.mpr q1), if_pos q1, bS, if_neg n0]
    · rw [if_neg (fun e => q1 (h102.mp e)), if_neg q1]
      by_cases q2 : c i = 103
      · rw [if_pos (h103.mpr q2), if_pos q2, bS, if_neg n0]
      · rw [if_neg (fun e => q2 (h103.mp e)), if_neg q2]
        by_cases q3 : c i = 104
        · rw [if_pos (h104.mpr q3), if_pos q3, bS, if_neg (show ¬ (3 : Int32) = 0 by decide)]
        · rw [if_neg (fun e => q3 (h104.mp e)), if_neg q3]
          by_cases q4 : c i = 119
          · rw [if_pos (h119.mpr q4), if_pos q4, bS, if_neg (show ¬ (2 : Int32) = 0 by decide)]
          · rw [if_neg (fun e => q4 (h119.mp e)), if_neg q4, bS, if_pos rfl]
  have efail : ∀ m1, fX3_readItem 1 (nI i) (Mk m l) = some (-4, Mk m1 l) → F1 3 m m1 → ∃ m' l', fX3_readInto_6 (u + 1) 1 10 (nI i) (Mk m l) = some (nI i, Mk m' l') ∧ FR m m' ∧ FQl l l' := by
    intro m1 e h
    refine ⟨m1, l, ?_, FR_3 h, FQl.rf⟩
    rw [estart, e, bS, if_pos hm4]
  have etell : ∀ (j : Nat) m1, i < j → j < 1000 → F1 3 m m1 → fX3_readItem 1 (nI i) (Mk m l) = some (nI j, Mk m1 l) → fX3_readInto_6 (u + 1) 1 10 (nI i) (Mk m l) = (fX3_tell 1 10 (nI (c i)) (Mk m1 l)).bind fun q11 => (if q11.1 = 0 then some (nI i, q11.2) else (fX3_readInto_6 u) 1 10 (nI j) q11.2) := by
    intro j m1 h1 h2 h3 e
    rw [estart, e, bS, if_neg (nI_ge h1 (by omega)), c_letterAt hl (CTx_FR ht (FR_3 h3)) (by omega), bS]
  by_cases q1 : c i = 102
  · have ei : itm c g i = (rd c (i + 1) 59).bind fun a => if a.1 ≤ 39 then some (m2 g 6 a.1 1, a.2) else none := by rw [itm, if_pos q1]
    rw [if_pos q1] at eitem
    rcases c_rd1 (l := l) hl ht (show i + 1 < 700 by omega) with ⟨h1, m1, e1, f1⟩ | ⟨a, h1, e1⟩
    · exact Or.inl ⟨by rw [ei, h1]; rfl, efail m1 (eitem.trans e1) f1⟩
    · have hs := rd_some h1
      have et := etell a.2 _ (by omega) (by omega) F1.st (eitem.trans e1)
      rw [q1, fX3_tell, grd_t T_o, if_pos (show nI 102 = 102 from rfl), T_r2, bS, a3_0, bS, m2_at] at et
      rcases c_addFrost isG_10 (CG_3c (t := 0) (x := nI a.1) hc) hs.1 with ⟨h2, l1, e2, g2, f2⟩ | ⟨h2, e2⟩
      · refine Or.inr ⟨(m2 g 6 a.1 1, a.2), by rw [ei, h1, Option.bind_some, if_pos h2], Wf_6 hw, rfl, _, l1, ?_, g2, FR_3 F1.st, f2⟩
        rw [et, e2, bS, grd_t (Or.inr rfl), bS, if_neg n0]
      · refine Or.inl ⟨by rw [ei, h1, Option.bind_some, if_neg h2], m2 m 3 0 (nI a.1), l, ?_, FR_3 F1.st, FQl.rf⟩
        rw [et, e2, bS, grd_t (Or.inl rfl), bS, if_pos rfl]
  · rw [if_neg q1] at eitem
    by_cases q2 : c i = 103
    · have ei : itm c g i = (rd c (i + 1) 59).bind fun a => if 1 ≤ a.1 ∧ a.1 ≤ 9 ∧ g 0 0 < 5 then some (addP g a.1, a.2) else none := by rw [itm, if_neg q1, if_pos q2]
      rw [if_pos q2] at eitem
      rcases c_rd1 (l := l) hl ht (show i + 1 < 700 by omega) with ⟨h1, m1, e1, f1⟩ | ⟨a, h1, e1⟩
      · exact Or.inl ⟨by rw [ei, h1]; rfl, efail m1 (eitem.trans e1) f1⟩
      · have hs := rd_some h1
        have et := etell a.2 _ (by omega) (by omega) F1.st (eitem.trans e1)
        rw [q2, fX3_tell, grd_t T_o, if_neg (show ¬ nI 103 = 102 by decide), if_pos (show nI 103 = 103 from rfl), T_r2, bS, a3_0, bS, m2_at] at et
        rcases c_addPlot isG_10 (CG_3c (t := 0) (x := nI a.1) hc) hw.1 hs.1 with ⟨h2, m2', e2, g2, f2⟩ | ⟨h2, e2⟩
        · refine Or.inr ⟨(addP g a.1, a.2), by rw [ei, h1, Option.bind_some, if_pos h2], Wf_addP hw h2.2.1 h2.2.2, by show addP g a.1 0 2 = g 0 2; unfold addP; rw [m2_nk (by decide), m2_ne (by decide)], m2', l, ?_, g2, (FR_3 F1.st).tr (FR_G f2), FQl.rf⟩
          rw [et, e2, bS, grd_t (Or.inr rfl), bS, if_neg n0]
        · refine Or.inl ⟨by rw [ei, h1, Option.bind_some, if_neg h2], m2 m 3 0 (nI a.1), l, ?_, FR_3 F1.st, FQl.rf⟩
          rw [et, e2, bS, grd_t (Or.inl rfl), bS, if_pos rfl]
    · rw [if_neg q2] at eitem
      by_cases q3 : c i = 104
      · have ei : itm c g i = ((rd c (i + 1) 44).bind fun a => (rd c a.2 44).bind fun b => (rd c b.2 59).bind fun d => if a.1 ≤ 3 ∧ 1 ≤ b.1 ∧ b.1 ≤ 20 ∧ g 0 1 < 7 ∧ d.1 < g 0 0 ∧ fit g a.1 d.1 = true then some (put (addH g a.1 b.1) (g 0 1) d.1, d.2) else none) := by rw [itm, if_neg q1, if_neg q2, if_pos q3]
        rw [if_pos q3] at eitem
        rcases c_rd3 (l := l) hl ht (show i + 1 < 700 by omega) with ⟨h1, m1, e1, f1⟩ | ⟨a, b, d, ha, hb, hd, e1⟩
        · refine Or.inl ⟨?_, efail m1 (eitem.trans e1) f1⟩
          rw [ei]
          cases ha : rd c (i + 1) 44 with
          | none => rfl
          | some a =>
            rw [ha, Option.bind_some] at h1
            rw [Option.bind_some]
            cases hb : rd c a.2 44 with
            | none => rfl
            | some b =>
              rw [hb, Option.bind_some] at h1
              rw [Option.bind_some, h1]
              rfl
        · have hsa := rd_some ha
          have hsb := rd_some hb
          have hsd := rd_some hd
          have f3 : F1 3 m (m2 (m2 (m2 m 3 0 (nI a.1)) 3 1 (nI b.1)) 3 2 (nI d.1)) := F1.tr F1.st (F1.tr F1.st F1.st)
          have et := etell d.2 _ (by omega) (by omega) f3 (eitem.trans e1)
          rw [q3, fX3_tell, grd_t T_o, if_neg (show ¬ nI 104 = 102 by decide), if_neg (show ¬ nI 104 = 103 by decide), if_pos (show nI 104 = 104 from rfl)] at et
          simp only [T_r2, bS, a3_0, a3_1, a3_2, m2_at, m2_nk (show 0 ≠ 2 by decide), m2_nk (show 0 ≠ 1 by decide), m2_nk (show 1 ≠ 2 by decide)] at et
          have g3 : CG 10 (m2 (m2 (m2 m 3 0 (nI a.1)) 3 1 (nI b.1)) 3 2 (nI d.1)) l g := CG_3c (CG_3c (CG_3c hc))
          rw [fX0_addLyingHour, grd_t (G_o isG_10)] at et
          rcases c_addHour isG_10 g3 hw.1 hsa.1 hsb.1 with ⟨h2, m4, e2, g4, f4⟩ | ⟨h2, e2⟩
          · have hwh := Wf_addH hw h2.1 h2.2.2.1 h2.2.2.2
            have hN : addH g a.1 b.1 0 1 = g 0 1 + 1 := addH_1
            have hP : addH g a.1 b.1 0 0 = g 0 0 := addH_0 (by decide)
            rw [e2, bS, if_neg n0, G_gI isG_10, bS, g4.1 1 (by decide), hN, show nI (g 0 1 + 1) - 1 = nI (g 0 1) from nI_pred _] at et
            by_cases hp : d.1 < g 0 0
            · rw [c_hasRoomFor isG_10 g4 hwh.1 (show g 0 1 < addH g a.1 b.1 0 1 by omega) (show d.1 < addH g a.1 b.1 0 0 by omega), bS] at et
              have h9 : addH g a.1 b.1 4 (g 0 1) = 9 := by
                rw [addH_c (by decide) (by decide) (by decide)]
                exact porch hw.1 (Nat.le_refl _) h2.2.2.2
              have hk : addH g a.1 b.1 2 (g 0 1) = a.1 := by rw [addH_2, if_pos rfl]
              rw [h9, if_neg (show ¬ 9 = d.1 by omega), hk, fit_addH hw h2.2.2.2 (by omega)] at et
              by_cases hft : fit g a.1 d.1 = true
              · obtain ⟨m5, e5, g5, f5⟩ := c_setOnTop isG_10 g4 hwh.1 (show g 0 1 < addH g a.1 b.1 0 1 by omega) (show d.1 < addH g a.1 b.1 0 0 by omega)
                rw [if_pos hft, if_neg n0, G_gI isG_10, bS, g4.1 1 (by decide), hN, show nI (g 0 1 + 1) - 1 = nI (g 0 1) from nI_pred _, e5, bS, bS, grd_t (Or.inr rfl), bS, if_neg n0] at et
                refine Or.inr ⟨(put (addH g a.1 b.1) (g 0 1) d.1, d.2), ?_, Wf_put hwh (by omega) (by omega) h9, ?_, m5, l, et, g5, (FR_3 f3).tr ((FR_G f4).tr (FR_G f5)), FQl.rf⟩
                · rw [ei, ha, Option.bind_some, hb, Option.bind_some, hd, Option.bind_some, if_pos ⟨h2.1, h2.2.1, h2.2.2.1, h2.2.2.2, hp, hft⟩]
                · show put (addH g a.1 b.1) (g 0 1) d.1 0 2 = g 0 2
                  rw [put_c (by decide) (by decide), addH_0 (by decide)]
              · rw [if_neg hft, if_pos rfl, bS, grd_t (Or.inl rfl), bS, if_pos rfl] at et
                refine Or.inl ⟨?_, m4, l, et, (FR_3 f3).tr (FR_G f4), FQl.rf⟩
                rw [ei, ha, Option.bind_some, hb, Option.bind_some, hd, Option.bind_some, if_neg (fun e => hft e.2.2.2.2.2)]
            · have hno : fX0_hasRoomFor 10 (nI (g 0 1)) (nI d.1) (Mk m4 l) = some (0, Mk m4 l) := by
                rw [fX0_hasRoomFor, grd_t (G_o isG_10), c_hasHour isG_10 g4 hwh.1 (show g 0 1 < addH g a.1 b.1 0 1 by omega), bS, if_neg n0, c_hasPlot0 isG_10 g4 hwh.1 (Or.inr (by rw [hP]; exact nI_le (by omega) (by omega))), bS, if_pos rfl]
              rw [hno, bS, if_pos rfl, bS, grd_t (Or.inl rfl), bS, if_pos rfl] at et
              refine Or.inl ⟨?_, m4, l, et, (FR_3 f3).tr (FR_G f4), FQl.rf⟩
              rw [ei, ha, Option.bind_some, hb, Option.bind_some, hd, Option.bind_some, if_neg (fun e => hp e.2.2.2.2.1)]
          · rw [e2, bS, if_pos rfl, bS, grd_t (Or.inl rfl), bS, if_pos rfl] at et
            refine Or.inl ⟨?_, _, l, et, FR_3 f3, FQl.rf⟩
            rw [ei, ha, Option.bind_some, hb, Option.bind_some, hd, Option.bind_some, if_neg (fun e => h2 ⟨e.1, e.2.1, e.2.2.1, e.2.2.2.1⟩)]
      · rw [if_neg q3] at eitem
        by_cases q4 : c i = 119
        · have ei : itm c g i = ((rd c (i + 1) 44).bind fun a => (rd c a.2 59).bind fun b => if a.1 ≤ 3 ∧ 1 ≤ b.1 ∧ b.1 ≤ 20 ∧ g 0 1 < 7 then some (addH g a.1 b.1, b.2) else none) := by rw [itm, if_neg q1, if_neg q2, if_neg q3, if_pos q4]
          rw [if_pos q4] at eitem
          rcases c_rd2 (l := l) hl ht (show i + 1 < 700 by omega) with ⟨h1, m1, e1, f1⟩ | ⟨a, b, ha, hb, e1⟩
          · refine Or.inl ⟨?_, efail m1 (eitem.trans e1) f1⟩
            rw [ei]
            cases ha : rd c (i + 1) 44 with
            | none => rfl
            | some a =>
              rw [ha, Option.bind_some] at h1
              rw [Option.bind_some, h1]
              rfl
          · have hsa := rd_some ha
            have hsb := rd_some hb
            have f3 : F1 3 m (m2 (m2 m 3 0 (nI a.1)) 3 1 (nI b.1)) := F1.tr F1.st F1.st
            have et := etell b.2 _ (by omega) (by omega) f3 (eitem.trans e1)
            rw [q4, fX3_tell, grd_t T_o, if_neg (show ¬ nI 119 = 102 by decide), if_neg (show ¬ nI 119 = 103 by decide), if_neg (show ¬ nI 119 = 104 by decide), if_pos (show nI 119 = 119 from rfl)] at et
            simp only [T_r2, bS, a3_0, a3_1, m2_at, m2_nk (show 0 ≠ 1 by decide)] at et
            have g3 : CG 10 (m2 (m2 m 3 0 (nI a.1)) 3 1 (nI b.1)) l g := CG_3c (CG_3c hc)
            rcases c_addHour isG_10 g3 hw.1 hsa.1 hsb.1 with ⟨h2, m4, e2, g4, f4⟩ | ⟨h2, e2⟩
            · rw [e2, bS, grd_t (Or.inr rfl), bS, if_neg n0] at et
              refine Or.inr ⟨(addH g a.1 b.1, b.2), ?_, Wf_addH hw h2.1 h2.2.2.1 h2.2.2.2, addH_0 (g := g) (k := a.1) (w := b.1) (i := 2) (by decide), m4, l, et, g4, (FR_3 f3).tr (FR_G f4), FQl.rf⟩
              rw [ei, ha, Option.bind_some, hb, Option.bind_some, if_pos h2]
            · rw [e2, bS, grd_t (Or.inl rfl), bS, if_pos rfl] at et
              refine Or.inl ⟨?_, _, l, et, FR_3 f3, FQl.rf⟩
              rw [ei, ha, Option.bind_some, hb, Option.bind_some, if_neg h2]
        · rw [if_neg q4] at eitem
          exact Or.inl ⟨by rw [itm, if_neg q1, if_neg q2, if_neg q3, if_neg q4], efail m eitem F1.rf⟩
end RCa
