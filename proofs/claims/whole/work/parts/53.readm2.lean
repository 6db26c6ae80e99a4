section RMb
variable {m m' m1 : Nat → Nat → Int32} {l l' : Nat → Nat → Int64} {g : Gn} {n : Nat} {f : Nat → Int32} {c : Nat → Nat} {z : Zt}
theorem lt1 : (-1 : Int32) < 0 := by decide
/-- what an item comes to in the model -/
def Mi (o : Option (Int32 × Mu)) (m : Nat → Nat → Int32) (l : Nat → Nat → Int64) (it : Option (Gn × Nat)) : Prop := (it = none ∧ ∃ m', o = some (0, Mk m' l) ∧ FT m m') ∨ ∃ a, it = some a ∧ ∃ m', o = some (1, Mk m' l) ∧ MS m' a.1 ∧ MT 96 m' a.1 ∧ m' 93 11 = nI a.2 ∧ FT m m'
theorem in_03 (v : Nat) (hv : v < 100) : (nI v < 0 ∨ 3 < nI v) ↔ ¬ (v ≤ 3) := by
  rw [show (nI v < 0 ∨ 3 < nI v) ↔ ¬ (0 ≤ v ∧ v ≤ 3) from wi (a := 0) (b := 3) (by omega) (by decide) (by decide)]
  omega
theorem in_39 (v : Nat) (hv : v < 100) : (nI v < 0 ∨ 39 < nI v) ↔ ¬ (v ≤ 39) := by
  rw [show (nI v < 0 ∨ 39 < nI v) ↔ ¬ (0 ≤ v ∧ v ≤ 39) from wi (a := 0) (b := 39) (by omega) (by decide) (by decide)]
  omega
theorem in_P (P : Nat) (hP : P ≤ 5) (v : Nat) (hv : v < 100) : (nI v < 0 ∨ nI P - 1 < nI v) ↔ ¬ (v < P) := by
  rw [lt_pred (by omega), or_false]
  constructor
  · rintro (h | h)
    · exact absurd h (nI_pos (by omega))
    · intro q
      exact nI_ge q (by omega) h
  · intro h
    exact Or.inr (nI_le (by omega) (by omega))
theorem m_readsHour1 (hl : Lt' n f c) (ht : MTx m n f) (hs : MS m g) (hd : MT 96 m g) (hw : Wf g) {i : Nat} (hat : m 93 11 = nI i) (hi : i < 300) : Mi (fX7_readsHour 93 1 (Mk m l)) m l ((rd c i 44).bind fun a => (rd c a.2 44).bind fun b => (rd c b.2 59).bind fun d => if a.1 ≤ 3 ∧ 1 ≤ b.1 ∧ b.1 ≤ 20 ∧ g 0 1 < 7 ∧ d.1 < g 0 0 ∧ fit g a.1 d.1 = true then some (put (addH g a.1 b.1) (g 0 1) d.1, d.2) else none) := by
  have h5 := hw.1.1
  have h7 := hw.1.2.1
  obtain ⟨r1, m1, e1, f1, h1⟩ := m_number (l := l) (e := 44) hl ht in_03 (by decide) (by decide) hat (by omega)
  rw [show nI 44 = 44 from rfl] at e1
  rw [fX7_readsHour, grd_t M_o, e1, bS]
  rcases h1 with ⟨a, ha, hok, rfl, hat1⟩ | ⟨hno, rfl⟩
  · have hsa := rd_some ha
    rw [if_pos (show (0 : Int32) ≤ nI a.1 from nI_le (a := 0) (by omega) (by omega)), if_neg n0]
    obtain ⟨r2, m3, e2, f2, h2⟩ := m_number (l := l) (lo := 1) (hi := 20) (e := 44) hl (MTx_FT ht (FT_a f1)) (fun v hv => wi (a := 1) (b := 20) (by omega) (by decide) (by decide)) (by decide) (by decide) hat1 (by omega)
    rw [show nI 44 = 44 from rfl] at e2
    rw [e2, bS, fX7_readsHour_35]
    rcases h2 with ⟨b, hb, hok2, rfl, hat2⟩ | ⟨hno, rfl⟩
    · have hsb := rd_some hb
      have d3 := MT_Fa (by decide) (MT_Fa (by decide) hd f1) f2
      have s3 := MS_Fa (MS_Fa hs f1) f2
      have hb0 : ¬ nI b.1 < 0 := nI_pos (by omega)
      rw [if_neg hb0, if_neg n0, M_r3, bS, a96_0, bS, d3.1]
      obtain ⟨r3, m4, e3, f3, h3⟩ := m_number (l := l) (lo := 0) (hi := nI (g 0 0) - 1) (e := 59) hl (MTx_FT ht (FT_a (f1.tr f2))) (in_P (g 0 0) h5) (by decide) (by decide) hat2 (by omega)
      rw [show nI 59 = 59 from rfl] at e3
      have f4 : Fa m m4 := f1.tr (f2.tr f3)
      rw [e3, bS, fX7_readsHour_63, if_neg hb0, if_neg n0]
      rcases h3 with ⟨d, hd3, hok3, rfl, hat3⟩ | ⟨hno, rfl⟩
      · have hsd := rd_some hd3
        have d4 := MT_Fa (by decide) d3 f3
        have s4 := MS_Fa s3 f3
        rw [if_neg (nI_pos (by omega)), fX7_readsHour_78, M_r3, bS, a96_1, bS, d4.2.1]
        rw [ha, Option.bind_some, hb, Option.bind_some, hd3, Option.bind_some]
        by_cases q7 : g 0 1 = 7
        · left
          refine ⟨if_neg (by omega), m4, ?_, FT_a f4⟩
          rw [q7, if_pos (show nI 7 = 7 from rfl)]
        · rw [if_neg (show ¬ nI (g 0 1) = 7 by rw [show (7 : Int32) = nI 7 from rfl, nI_inj (by omega) (by decide)]; exact q7), if_neg n0, m_isFit (Or.inr ⟨rfl, rfl⟩) d4 s4 hw (show a.1 < 4 by omega) hok3, bS]
          by_cases hft : fit g a.1 d.1 = true
          · right
            obtain ⟨m5, e5, s5, t5, f5, e93⟩ := m_newHour (l := l) s4 d4 hw (show g 0 1 < 7 by omega) hok hok2.2 (Or.inr ⟨d.1, hok3, rfl, rfl⟩)
            refine ⟨(put (addH g a.1 b.1) (g 0 1) d.1, d.2), if_pos ⟨hok, hok2.1, hok2.2, by omega, hok3, hft⟩, m5, ?_, s5, t5, ?_, (FT_a f4).tr f5⟩
            · rw [if_pos hft, if_neg n0, fX7_readsHour_106, if_neg n0, e5, bS]
            · rw [e93]
              exact hat3
          · left
            refine ⟨if_neg (fun e => hft e.2.2.2.2.2), m4, ?_, FT_a f4⟩
            rw [if_neg hft, if_pos rfl]
      · left
        refine ⟨?_, m4, ?_, FT_a f4⟩
        · rw [ha, Option.bind_some, hb, Option.bind_some]
          cases hd3 : rd c b.2 59 with
          | none => rfl
          | some d =>
            rw [Option.bind_some, if_neg (fun e => hno d hd3 e.2.2.2.2.1)]
        · rw [if_pos lt1]
    · left
      refine ⟨?_, m3, ?_, FT_a (f1.tr f2)⟩
      · rw [ha, Option.bind_some]
        cases hb : rd c a.2 44 with
        | none => rfl
        | some b =>
          rw [Option.bind_some]
          cases hd3 : rd c b.2 59 with
          | none => rfl
          | some d =>
            rw [Option.bind_some, if_neg (fun e => hno b hb ⟨e.2.1, e.2.2.1⟩)]
      · rw [if_pos lt1, fX7_readsHour_63, if_pos lt1]
  · left
    refine ⟨?_, m1, ?_, FT_a f1⟩
    · cases ha : rd c i 44 with
      | none => rfl
      | some a =>
        rw [Option.bind_some]
        cases hb : rd c a.2 44 with
        | none => rfl
        | some b =>
          rw [Option.bind_some]
          cases hd3 : rd c b.2 59 with
          | none => rfl
          | some d =>
            rw [Option.bind_some, if_neg (fun e => hno a ha e.1)]
    · rw [if_neg (show ¬ (0 : Int32) ≤ -1 by decide), fX7_readsHour_35, if_pos lt1, fX7_readsHour_63, if_pos lt1]
theorem m_readsHour0 (hl : Lt' n f c) (ht : MTx m n f) (hs : MS m g) (hd : MT 96 m g) (hw : Wf g) {i : Nat} (hat : m 93 11 = nI i) (hi : i < 300) : Mi (fX7_readsHour 93 0 (Mk m l)) m l ((rd c i 44).bind fun a => (rd c a.2 59).bind fun b => if a.1 ≤ 3 ∧ 1 ≤ b.1 ∧ b.1 ≤ 20 ∧ g 0 1 < 7 then some (addH g a.1 b.1, b.2) else none) := by
  have h5 := hw.1.1
  have h7 := hw.1.2.1
  obtain ⟨r1, m1, e1, f1, h1⟩ := m_number (l := l) (e := 44) hl ht in_03 (by decide) (by decide) hat (by omega)
  rw [show nI 44 = 44 from rfl] at e1
  rw [fX7_readsHour, grd_t M_o, e1, bS]
  rcases h1 with ⟨a, ha, hok, rfl, hat1⟩ | ⟨hno, rfl⟩
  · have hsa := rd_some ha
    rw [if_pos (show (0 : Int32) ≤ nI a.1 from nI_le (a := 0) (by omega) (by omega)), if_pos rfl]
    obtain ⟨r2, m3, e2, f2, h2⟩ := m_number (l := l) (lo := 1) (hi := 20) (e := 59) hl (MTx_FT ht (FT_a f1)) (fun v hv => wi (a := 1) (b := 20) (by omega) (by decide) (by decide)) (by decide) (by decide) hat1 (by omega)
    rw [show nI 59 = 59 from rfl] at e2
    rw [e2, bS, fX7_readsHour_35]
    rcases h2 with ⟨b, hb, hok2, rfl, hat2⟩ | ⟨hno, rfl⟩
    · have hsb := rd_some hb
      have d3 := MT_Fa (by decide) (MT_Fa (by decide) hd f1) f2
      have s3 := MS_Fa (MS_Fa hs f1) f2
      have hb0 : ¬ nI b.1 < 0 := nI_pos (by omega)
      rw [if_neg hb0, if_pos rfl, fX7_readsHour_63, if_neg hb0, if_pos rfl, fX7_readsHour_78, M_r3, bS, a96_1, bS, d3.2.1]
      rw [ha, Option.bind_some, hb, Option.bind_some]
      by_cases q7 : g 0 1 = 7
      · left
        refine ⟨if_neg (by omega), m3, ?_, FT_a (f1.tr f2)⟩
        rw [q7, if_pos (show nI 7 = 7 from rfl)]
      · right
        obtain ⟨m5, e5, s5, t5, f5, e93⟩ := m_newHour (l := l) s3 d3 hw (show g 0 1 < 7 by omega) hok hok2.2 (Or.inl ⟨rfl, rfl⟩)
        refine ⟨(addH g a.1 b.1, b.2), if_pos ⟨hok, hok2.1, hok2.2, by omega⟩, m5, ?_, s5, t5, ?_, (FT_a (f1.tr f2)).tr f5⟩
        · rw [if_neg (show ¬ nI (g 0 1) = 7 by rw [show (7 : Int32) = nI 7 from rfl, nI_inj (by omega) (by decide)]; exact q7), if_pos rfl, fX7_readsHour_106, if_pos rfl, e5, bS]
        · rw [e93]
          exact hat2
    · left
      refine ⟨?_, m3, ?_, FT_a (f1.tr f2)⟩
      · rw [ha, Option.bind_some]
        cases hb : rd c a.2 59 with
        | none => rfl
        | some b =>
          rw [Option.bind_some, if_neg (fun e => hno b hb ⟨e.2.1, e.2.2.1⟩)]
      · rw [if_pos lt1, fX7_readsHour_63, if_pos lt1]
  · left
    refine ⟨?_, m1, ?_, FT_a f1⟩
    · cases ha : rd c i 44 with
      | none => rfl
      | some a =>
        rw [Option.bind_some]
        cases hb : rd c a.2 59 with
        | none => rfl
        | some b =>
          rw [Option.bind_some, if_neg (fun e => hno a ha e.1)]
    · rw [if_neg (show ¬ (0 : Int32) ≤ -1 by decide), fX7_readsHour_35, if_pos lt1, fX7_readsHour_63, if_pos lt1]
theorem Mi_g {o : Option (Int32 × Mu)} {it : Option (Gn × Nat)} (h : Mi o m l it) : Mi (o.bind fun q => grd (q.1 = 0 ∨ q.1 = 1) (some (q.1, q.2))) m l it := by
  rcases h with ⟨h1, m', e, h2⟩ | ⟨a, h1, m', e, h2⟩
  · refine Or.inl ⟨h1, m', ?_, h2⟩
    rw [e, bS, grd_t (Or.inl rfl)]
  · refine Or.inr ⟨a, h1, m', ?_, h2⟩
    rw [e, bS, grd_t (Or.inr rfl)]
theorem m_item (hl : Lt' n f c) (ht : MTx m n f) (hs : MS m g) (hd : MT 96 m g) (hw : Wf g) {i : Nat} (hat : m 93 11 = nI (i + 1)) (hi : i < n) : Mi (fX7_readsItem 93 (nI (c i)) (Mk m l)) m l (itm c g i) := by
  have hn := hl.1
  have h5 := hw.1.1
  have hci := c_lt hl i
  have hcl : ∀ e : Nat, e < 1000 → (nI (c i) = nI e ↔ c i = e) := fun e he => nI_inj (by omega) (by omega)
  have h102 : nI (c i) = 102 ↔ c i = 102 := hcl 102 (by decide)
  have h103 : nI (c i) = 103 ↔ c i = 103 := hcl 103 (by decide)
  have h104 : nI (c i) = 104 ↔ c i = 104 := hcl 104 (by decide)
  have h119 : nI (c i) = 119 ↔ c i = 119 := hcl 119 (by decide)
  rw [fX7_readsItem, grd_t M_o, itm]
  by_cases q1 : c i = 102
  · rw [if_pos (h102.mpr q1), if_pos q1]
    obtain ⟨r1, m1, e1, f1, h1⟩ := m_number (l := l) (e := 59) hl ht in_39 (by decide) (by decide) hat (by omega)
    rw [show nI 59 = 59 from rfl] at e1
    rw [e1, bS]
    rcases h1 with ⟨a, ha, hok, rfl, hat1⟩ | ⟨hno, rfl⟩
    · right
      have hsa := rd_some ha
      refine ⟨(m2 g 6 a.1 1, a.2), by rw [ha, Option.bind_some, if_pos hok], m2 m1 96 (16 + a.1) 1, ?_, ?_, ?_, ?_, (FT_a f1).tr (FT_6 F1.st)⟩
      · rw [if_neg (nI_pos (by omega)), M_r3, bS, ad16, b96 (by omega), bS, if_neg (nI_pos (by omega))]
      · rw [MS_MR, m2_ne (by decide)]
        exact MS_Fa hs f1
      · have d1 := MT_Fa (by decide) hd f1
        refine ⟨by rw [m2_nk (by omega)]; exact d1.1, by rw [m2_nk (by omega)]; exact d1.2.1, fun h hh => ?_, fun y hy => ?_⟩
        · rw [m2_nk (by omega), m2_nk (by omega)]
          exact d1.2.2.1 h hh
        · show _ = if m2 g 6 a.1 1 6 y = 1 then 1 else 0
          by_cases e : y = a.1
          · rw [e, m2_at, m2_at, if_pos rfl]
          · rw [m2_nk (by omega), m2_nk e]
            exact d1.2.2.2 y hy
      · rw [m2_ne (by decide)]
        exact hat1
    · left
      refine ⟨?_, m1, ?_, FT_a f1⟩
      · cases ha : rd c (i + 1) 59 with
        | none => rfl
        | some a => rw [Option.bind_some, if_neg (hno a ha)]
      · rw [if_pos lt1, if_pos lt1]
  · rw [if_neg (fun e => q1 (h102.mp e)), if_neg q1]
    by_cases q2 : c i = 103
    · rw [if_pos (h103.mpr q2), if_pos q2]
      obtain ⟨r1, m1, e1, f1, h1⟩ := m_number (l := l) (lo := 1) (hi := 9) (e := 59) hl ht (fun v hv => wi (a := 1) (b := 9) (by omega) (by decide) (by decide)) (by decide) (by decide) hat (by omega)
      rw [show nI 59 = 59 from rfl] at e1
      rw [e1, bS]
      rcases h1 with ⟨a, ha, hok, rfl, hat1⟩ | ⟨hno, rfl⟩
      · have hsa := rd_some ha
        have d1 := MT_Fa (by decide) hd f1
        have s1 := MS_Fa hs f1
        rw [if_neg (nI_pos (by omega)), M_r3, bS, a96_0, bS, d1.1, ha, Option.bind_some]
        by_cases q5 : g 0 0 = 5
        · left
          refine ⟨if_neg (by omega), m1, ?_, FT_a f1⟩
          rw [q5, if_pos (show nI 5 = 5 from rfl)]
        · right
          refine ⟨(addP g a.1, a.2), if_pos ⟨hok.1, hok.2, by omega⟩, m2 (m2 m1 97 (2 + g 0 0) (nI a.1)) 96 0 (nI (g 0 0 + 1)), ?_, ?_, ?_, ?_, (FT_a f1).tr ((FT_7 F1.st).tr (FT_6 F1.st))⟩
          · rw [if_neg (show ¬ nI (g 0 0) = 5 by rw [show (5 : Int32) = nI 5 from rfl, nI_inj (by omega) (by decide)]; exact q5)]
            simp only [M_r4, M_r3, bS, a96_0, d1.1, ad2, b97 (show 2 + g 0 0 < 21 by omega), m2_ne (show 96 ≠ 97 by decide), nI_1, b96_0]
          · rw [MS_MR, m2_ne (by decide)]
            refine ⟨?_, ?_, fun p hp => ?_, fun h hh => ?_⟩
            · rw [m2_nk (by omega)]
              exact s1.1
            · rw [m2_nk (by omega)]
              exact s1.2.1
            · have hp : p < g 0 0 + 1 := hp
              show _ = nI (addP g a.1 1 p)
              unfold addP
              rw [m2_ne (show 1 ≠ 0 by decide)]
              by_cases e : p = g 0 0
              · subst e
                rw [m2_at, m2_at]
              · rw [m2_nk (by omega), m2_nk e]
                exact s1.2.2.1 p (by omega)
            · rw [m2_nk (by omega), m2_nk (by omega)]
              exact s1.2.2.2 h hh
          · refine ⟨m2_at, ?_, fun h hh => ?_, fun y hy => ?_⟩
            · rw [m2_nk (by decide), m2_ne (by decide)]
              exact d1.2.1
            · rw [m2_nk (by omega), m2_nk (by omega), m2_ne (by decide)]
              exact d1.2.2.1 h hh
            · rw [m2_nk (by omega), m2_ne (by decide)]
              exact d1.2.2.2 y hy
          · rw [m2_ne (by decide), m2_ne (by decide)]
            exact hat1
      · left
        refine ⟨?_, m1, ?_, FT_a f1⟩
        · cases ha : rd c (i + 1) 59 with
          | none => rfl
          | some a => rw [Option.bind_some, if_neg (fun e => hno a ha ⟨e.1, e.2.1⟩)]
        · rw [if_pos lt1]
    · rw [if_neg (fun e => q2 (h103.mp e)), if_neg q2]
      by_cases q3 : c i = 104
      · rw [if_pos (h104.mpr q3), if_pos q3]
        exact Mi_g (m_readsHour1 hl ht hs hd hw hat (by omega))
      · rw [if_neg (fun e => q3 (h104.mp e)), if_neg q3]
        by_cases q4 : c i = 119
        · rw [if_pos (h119.mpr q4), if_pos q4]
          exact Mi_g (m_readsHour0 hl ht hs hd hw hat (by omega))
        · rw [if_neg (fun e => q4 (h119.mp e)), if_neg q4]
          exact Or.inl ⟨rfl, m, rfl, FT.rf⟩
end RMb
