theorem bS {α β : Type} (x : α) (f : α → Option β) : (some x).bind f = f x := by
  cases h : f x with
  | none => simp [h]
  | some y => simp [h]
/-! looks ahead -/
section LKa
variable {m m' : Nat → Nat → Int32} {l l' : Nat → Nat → Int64} {g : Gn} {z : Zt}
theorem c_trial (hc : CG 4 m l g) (hP : g 0 0 ≤ 5) : ∃ m' l', fX0_copyFrom 10 4 (Mk m l) = some (Mk m' l') ∧ CG 10 m' l' g ∧ FQ m m' ∧ FQl l l' := by
  obtain ⟨m', l', e, h1, h2, h3⟩ := c_copyFrom isG_10 isG_4 (by decide) hc hP
  exact ⟨m', l', e, h1, FQ_Fr h2, fun c hc => by rw [h3]; exact m2_ne hc⟩
theorem c_pass1 {a : Nat} (ha : isG a) (hc : CG a m l g) (hw : Wb g) (hP : 0 < g 0 0) (hy : g 0 2 + 1 ≤ 100000) : ∃ r m', fX0_passYears a 1 (Mk m l) = some (r, Mk m' l) ∧ CG a m' l (y1 g) ∧ Fr a m m' := by
  obtain ⟨m', e, h1, h2⟩ := c_passYears ha hc hw hP (N := 1) (by decide) hy
  exact ⟨_, m', e, h1, h2⟩
theorem m_pass1 (hs : MS m g) (ht : MT 95 m g) (hw : Wf g) (hP : 0 < g 0 0) : ∃ r m', fX7_passes 93 1 (Mk m l) = some (r, Mk m' l) ∧ MS m' (y1 g) ∧ F1 97 m m' := by
  obtain ⟨m', e, h1, h2⟩ := m_passes (l := l) hs ht hw hP true
  exact ⟨_, m', e, h1, h2⟩
/-- the row is let back, and all is as it was -/
theorem m_letsQ {m0 m1 : Nat → Nat → Int32} (hs : MS m0 g) (ht : MT 95 m0 g) (hP : g 0 0 ≤ 5) (h1 : Cp 97 101 m0 m1 21) (h2 : F1 97 m1 m) : ∃ m', fX7_lets 93 (Mk m l) = some (Mk m' l) ∧ FN m0 m' ∧ MT 95 m' g ∧ MS m' g ∧ m' 101 = m1 101 := by
  obtain ⟨m', e, h3⟩ := m_lets (m := m) (l := l)
  have e101 : m 101 = m1 101 := h2 101 (by decide)
  have hr : MR (m 101) g := by rw [e101]; exact (MR_looks hs hP h1).1
  refine ⟨m', e, ?_, MT_F1 (MT_F1 (MT_F1 ht h1.2 (by decide)) h2 (by decide)) h3.2 (by decide), MS_lets hr hP h3, by rw [h3.2 101 (by decide), e101]⟩
  exact (FN_F1 h1.2 (by omega)).tr ((FN_F1 h2 (by omega)).tr (FN_F1 h3.2 (by omega)))
end LKa
theorem op_years (x : Int32) : Op (fX6_years 0 x) (fX7_years 93 x) := by
  refine Op_q (fun z hz => ?_)
  have hw := hz.1.1
  have hy := hz.1.2.2.2
  by_cases q : x < 1 ∨ 20 < x
  · refine ⟨-1, C6_p (fun m l hc => ?_), C7_p (fun m l hc => ?_)⟩
    · rw [fX6_years, grd_t X_o, c_within]
      simp only [Option.bind_some, if_pos q, if_true]
    · rw [fX7_years, grd_t M_o, m_in, Option.bind_some, if_pos q, if_pos rfl]
  obtain ⟨N, hN1, hN2, rfl⟩ := inr (a := 1) (b := 20) (by decide) (by decide) q
  refine ⟨nI (tN (zg z) N), C6_q (fun m l hc => ?_), C7_q (fun m l hc => ?_)⟩
  · obtain ⟨m1, l1, e1, g1, f1, fl1⟩ := c_trial hc.1 hw.1.1
    obtain ⟨m3, e3, g3, f3⟩ := c_passYears isG_10 g1 hw.1 hz.1.2.1 (N := N) (by omega) (by omega)
    refine ⟨m3, l1, ?_, f1.tr (FQ_Fr f3), fl1⟩
    rw [fX6_years, grd_t X_o, c_within]
    simp only [bS, if_neg q, if_neg n0, X_r1, X_r2, e1, e3]
  · obtain ⟨m1, e1, c1⟩ := m_looks (m := m) (l := l)
    have s1 := (MR_looks hc.1.2 hw.1.1 c1).2
    have t1 := MT_F1 hc.1.1 c1.2 (by decide)
    have key : ∃ m', fX7_years_20 FU 93 (nI N) 0 0 (Mk m1 l) = some (nI (tN (zg z) N), Mk m' l) ∧ FN m m' ∧ MT 95 m' (zg z) ∧ MS m' (zg z) := by
      refine lpR (fun n j (s : Int32 × (Nat → Nat → Int32)) => fX7_years_20 n 93 (nI N) s.1 (nI j) (Mk s.2 l)) (fun j s => s.1 = nI (tN (zg z) j) ∧ MS s.2 (yN (zg z) j) ∧ F1 97 m1 s.2) (fun o => ∃ m', o = some (nI (tN (zg z) N), Mk m' l) ∧ FN m m' ∧ MT 95 m' (zg z) ∧ MS m' (zg z)) N ?_ ?_ FU 0 (0, m1) (by omega) (by have := FU_big; omega) ⟨rfl, s1, F1.rf⟩
      · intro n j s hj hI
        left
        obtain ⟨h1, h2, h3⟩ := hI
        obtain ⟨m', e, h4, h5⟩ := m_passes (l := l) h2 (MT_S (MT_F1 t1 h3 (by decide)) Sm_yN) (Wf_yN hw hz.1.2.1 j (by omega)) (by rw [yN_0 _ (by decide)]; exact hz.1.2.1) true
        refine ⟨(nI (tN (zg z) (j + 1)), m'), ⟨rfl, h4, h3.tr h5⟩, ?_⟩
        rw [if_pos rfl] at e
        rw [fX7_years_20, if_neg (nI_ge hj (by omega)), e, Option.bind_some, h1]
        by_cases q : th (yN (zg z) j) = true
        · simp only [q, Bool.and_self, if_true, if_neg n0, nI_1, tN, ct]
        · simp only [q, Bool.and_false, Bool.false_eq_true, if_false, if_true, nI_1, tN, ct, Int32.add_zero, Nat.add_zero]
      · intro n s hI
        obtain ⟨h1, h2, h3⟩ := hI
        obtain ⟨m', e, h4, h5, h6, _⟩ := m_letsQ (l := l) hc.1.2 hc.1.1 hw.1.1 c1 h3
        refine ⟨m', ?_, h4, h5, h6⟩
        rw [fX7_years_20, if_pos (nI_le (Nat.le_refl N) (by omega)), e, Option.bind_some, h1]
    obtain ⟨m', e, h⟩ := key
    refine ⟨m', ?_, h⟩
    rw [fX7_years, grd_t M_o, m_in, Option.bind_some, if_neg q, if_neg n0, e1, Option.bind_some, e]
theorem op_behind (x y : Int32) : Op (fX6_behind 0 x y) (fX7_behind 93 x y) := by
  refine Op_q (fun z hz => ?_)
  have hw := hz.1.1
  have hy := hz.1.2.2.2
  have hN7 := hw.1.2.1
  by_cases q : x < 0 ∨ 60 < x
  · refine ⟨-1, C6_p (fun m l hc => ?_), C7_p (fun m l hc => ?_)⟩
    · rw [fX6_behind, grd_t X_o, c_within]
      simp only [Option.bind_some, if_pos q, if_true]
    · rw [fX7_behind, grd_t M_o, m_in, Option.bind_some, if_pos q, if_pos rfl]
  obtain ⟨N, hN1, hN2, rfl⟩ := inr (a := 0) (b := 60) (by decide) (by decide) q
  by_cases q2 : y < 0 ∨ nI (zg z 0 1) ≤ y
  · refine ⟨-1, C6_p (fun m l hc => ?_), C7_p (fun m l hc => ?_)⟩
    · rw [fX6_behind, grd_t X_o, c_within]
      simp only [Option.bind_some, if_neg q, if_neg n0, X_r1, c_hasHour0 isG_4 hc.1 hw.1 q2, if_true]
    · rw [fX7_behind, grd_t M_o, m_in, Option.bind_some, if_neg q, if_neg n0, m_isHour hc.1.1 hw.1, Option.bind_some, if_pos q2, if_pos rfl]
  obtain ⟨h, hh, rfl⟩ := inh (by omega) q2
  have h7 : h < 7 := by omega
  refine ⟨plI (yN (zg z) N 4 h), C6_q (fun m l hc => ?_), C7_q (fun m l hc => ?_)⟩
  · obtain ⟨m1, l1, e1, g1, f1, fl1⟩ := c_trial hc.1 hw.1.1
    obtain ⟨m3, e3, g3, f3⟩ := c_passYears isG_10 g1 hw.1 hz.1.2.1 (N := N) (by omega) (by omega)
    refine ⟨m3, l1, ?_, f1.tr (FQ_Fr f3), fl1⟩
    have hhN : h < yN (zg z) N 0 1 := by rw [yN_0 _ (by decide)]; exact hh
    rw [fX6_behind, grd_t X_o, c_within]
    simp only [bS, if_neg q, if_neg n0, X_r1, X_r2, c_hasHour isG_4 hc.1 hw.1 hh, e1, e3, c_placeOf isG_10 g3 (yN_Wb hw.1 N (by omega)) hhN]
  · obtain ⟨m1, e1, c1⟩ := m_looks (m := m) (l := l)
    have s1 := (MR_looks hc.1.2 hw.1.1 c1).2
    have t1 := MT_F1 hc.1.1 c1.2 (by decide)
    have key : ∃ m', fX7_behind_26 FU 93 (nI N) (nI h) 0 (Mk m1 l) = some (plI (yN (zg z) N 4 h), Mk m' l) ∧ FN m m' ∧ MT 95 m' (zg z) ∧ MS m' (zg z) := by
      refine lpR (fun n j (s : Nat → Nat → Int32) => fX7_behind_26 n 93 (nI N) (nI h) (nI j) (Mk s l)) (fun j s => MS s (yN (zg z) j) ∧ F1 97 m1 s) (fun o => ∃ m', o = some (plI (yN (zg z) N 4 h), Mk m' l) ∧ FN m m' ∧ MT 95 m' (zg z) ∧ MS m' (zg z)) N ?_ ?_ FU 0 m1 (by omega) (by have := FU_big; omega) ⟨s1, F1.rf⟩
      · intro n j s hj hI
        left
        obtain ⟨h2, h3⟩ := hI
        obtain ⟨r, m', e, h4, h5⟩ := m_pass1 (l := l) h2 (MT_S (MT_F1 t1 h3 (by decide)) Sm_yN) (Wf_yN hw hz.1.2.1 j (by omega)) (by rw [yN_0 _ (by decide)]; exact hz.1.2.1)
        refine ⟨m', ⟨h4, h3.tr h5⟩, ?_⟩
        rw [fX7_behind_26, if_neg (nI_ge hj (by omega)), e, Option.bind_some, nI_1]
      · intro n s hI
        obtain ⟨h2, h3⟩ := hI
        obtain ⟨m', e, h4, h5, h6, _⟩ := m_letsQ (l := l) hc.1.2 hc.1.1 hw.1.1 c1 h3
        refine ⟨m', ?_, h4, h5, h6⟩
        have hwN := yN_Wb hw.1 N (by omega)
        rw [fX7_behind_26, if_pos (nI_le (Nat.le_refl N) (by omega))]
        simp only [M_r4, Option.bind_some, ad7, a97 (show 7 + h < 21 by omega), (h2.2.2.2 h h7).1, e, plM_1 (pl_le hwN h7)]
        rw [plI, plM]
        split <;> rfl
    obtain ⟨m', e, hk⟩ := key
    refine ⟨m', ?_, hk⟩
    rw [fX7_behind, grd_t M_o, m_in, Option.bind_some, if_neg q, if_neg n0, m_isHour hc.1.1 hw.1, Option.bind_some, if_neg q2, if_neg n0, e1, Option.bind_some, e]
def outR (g : Gn) (h : Nat) : Nat := fs1 (fun j => yN g j 4 h == 9) 61
theorem op_out (x : Int32) : Op (fX6_out 0 x) (fX7_out 93 x) := by
  refine Op_q (fun z hz => ?_)
  have hw := hz.1.1
  have hy := hz.1.2.2.2
  have hN7 := hw.1.2.1
  by_cases q2 : x < 0 ∨ nI (zg z 0 1) ≤ x
  · refine ⟨-1, C6_p (fun m l hc => ?_), C7_p (fun m l hc => ?_)⟩
    · rw [fX6_out, grd_t X_o]
      simp only [Option.bind_some, X_r1, c_hasHour0 isG_4 hc.1 hw.1 q2, if_true]
    · rw [fX7_out, grd_t M_o, m_isHour hc.1.1 hw.1, Option.bind_some, if_pos q2, if_pos rfl]
  obtain ⟨h, hh, rfl⟩ := inh (by omega) q2
  have h7 : h < 7 := by omega
  have hP : ∀ j, 0 < yN (zg z) j 0 0 := fun j => by rw [yN_0 _ (by decide)]; exact hz.1.2.1
  refine ⟨if outR (zg z) h = 61 then -4 else nI (outR (zg z) h), C6_q (fun m l hc => ?_), C7_q (fun m l hc => ?_)⟩
  · obtain ⟨m1, l1, e1, g1, f1, fl1⟩ := c_trial hc.1 hw.1.1
    have key : ∃ m', fX6_out_26 FU 0 (nI h) 0 (Mk m1 l1) = some (if outR (zg z) h = 61 then -4 else nI (outR (zg z) h), Mk m' l1) ∧ Fr 10 m1 m' := by
      refine lpR (fun n j (s : Nat → Nat → Int32) => fX6_out_26 n 0 (nI h) (nI j) (Mk s l1)) (fun j s => CG 10 s l1 (yN (zg z) j) ∧ Fr 10 m1 s ∧ ∀ k, k < j → (yN (zg z) k 4 h == 9) = false) (fun o => ∃ m', o = some (if outR (zg z) h = 61 then -4 else nI (outR (zg z) h), Mk m' l1) ∧ Fr 10 m1 m') 61 ?_ ?_ FU 0 m1 (by omega) (by have := FU_big; omega) ⟨g1, Fr.rf, fun k hk => absurd hk (by omega)⟩
      · intro n j s hj hI
        obtain ⟨h2, h3, h4⟩ := hI
        have hwj := yN_Wb hw.1 j (by omega)
        rw [fX6_out_26, if_neg (by rw [show (60 : Int32) = nI 60 from rfl]; exact Int32.not_lt.mpr (nI_le (by omega) (by decide)))]
        simp only [X_r2, Option.bind_some, c_lies isG_10 h2 hwj (show h < yN (zg z) j 0 1 by rw [yN_0 _ (by decide)]; exact hh)]
        by_cases h9 : yN (zg z) j 4 h = 9
        · right
          have ho : outR (zg z) h = j := fs1_at (by simp [h9]) h4 hj
          refine ⟨s, ?_, h3⟩
          rw [ho, if_pos h9, if_neg (show ¬ j = 61 by omega), if_pos rfl]
        · left
          obtain ⟨r, m', e, g3, f3⟩ := c_pass1 isG_10 h2 hwj (hP j) (by rw [yN_y]; omega)
          refine ⟨m', ⟨g3, h3.tr f3, fun k hk => ?_⟩, ?_⟩
          · by_cases e : k = j
            · subst e
              simp [h9]
            · exact h4 k (by omega)
          · simp only [if_neg h9, if_neg n0, e, Option.bind_some, nI_1]
      · intro n s hI
        have ho : outR (zg z) h = 61 := fs1_no hI.2.2
        refine ⟨s, ?_, hI.2.1⟩
        rw [fX6_out_26, if_pos (by decide), if_pos ho]
    obtain ⟨m3, e3, f3⟩ := key
    refine ⟨m3, l1, ?_, f1.tr (FQ_Fr f3), fl1⟩
    rw [fX6_out, grd_t X_o, X_r1, Option.bind_some, c_hasHour isG_4 hc.1 hw.1 hh, Option.bind_some, if_neg n0, X_r2, Option.bind_some, X_r1, Option.bind_some, e1, Option.bind_some, e3]
  · obtain ⟨m1, e1, c1⟩ := m_looks (m := m) (l := l)
    have s1 := (MR_looks hc.1.2 hw.1.1 c1).2
    have t1 := MT_F1 hc.1.1 c1.2 (by decide)
    have key : ∃ m', fX7_out_16 FU 93 (nI h) 0 (Mk m1 l) = some (if outR (zg z) h = 61 then -4 else nI (outR (zg z) h), Mk m' l) ∧ FN m m' ∧ MT 95 m' (zg z) ∧ MS m' (zg z) := by
      refine lpR (fun n j (s : Nat → Nat → Int32) => fX7_out_16 n 93 (nI h) (nI j) (Mk s l)) (fun j s => MS s (yN (zg z) j) ∧ F1 97 m1 s ∧ ∀ k, k < j → (yN (zg z) k 4 h == 9) = false) (fun o => ∃ m', o = some (if outR (zg z) h = 61 then -4 else nI (outR (zg z) h), Mk m' l) ∧ FN m m' ∧ MT 95 m' (zg z) ∧ MS m' (zg z)) 61 ?_ ?_ FU 0 m1 (by omega) (by have := FU_big; omega) ⟨s1, F1.rf, fun k hk => absurd hk (by omega)⟩
      · intro n j s hj hI
        obtain ⟨h2, h3, h4⟩ := hI
        have hwj := yN_Wb hw.1 j (by omega)
        rw [fX7_out_16, if_neg (by rw [show (60 : Int32) = nI 60 from rfl]; exact Int32.not_lt.mpr (nI_le (by omega) (by decide)))]
        simp only [M_r4, Option.bind_some, ad7, a97 (show 7 + h < 21 by omega), (h2.2.2.2 h h7).1, plM_1 (pl_le hwj h7)]
        by_cases h9 : yN (zg z) j 4 h = 9
        · right
          have ho : outR (zg z) h = j := fs1_at (by simp [h9]) h4 hj
          obtain ⟨m', e, h5, h6, h8, _⟩ := m_letsQ (l := l) hc.1.2 hc.1.1 hw.1.1 c1 h3
          refine ⟨m', ?_, h5, h6, h8⟩
          rw [ho, if_neg (show ¬ j = 61 by omega), if_pos h9, fX7_out_47, e, Option.bind_some, if_pos (show nI j ≤ 60 from nI_le (a := j) (b := 60) (by omega) (by decide))]
        · left
          obtain ⟨r, m', e, g3, f3⟩ := m_pass1 (l := l) h2 (MT_S (MT_F1 t1 h3 (by decide)) Sm_yN) (Wf_yN hw hz.1.2.1 j (by omega)) (hP j)
          refine ⟨m', ⟨g3, h3.tr f3, fun k hk => ?_⟩, ?_⟩
          · by_cases e : k = j
            · subst e
              simp [h9]
            · exact h4 k (by omega)
          · simp only [if_neg h9, e, Option.bind_some, nI_1]
      · intro n s hI
        have ho : outR (zg z) h = 61 := fs1_no hI.2.2
        obtain ⟨m', e, h5, h6, h8, _⟩ := m_letsQ (l := l) hc.1.2 hc.1.1 hw.1.1 c1 hI.2.1
        refine ⟨m', ?_, h5, h6, h8⟩
        rw [fX7_out_16, if_pos (by decide), if_pos ho, fX7_out_47, e, Option.bind_some, if_neg (by decide)]
    obtain ⟨m', e, hk⟩ := key
    refine ⟨m', ?_, hk⟩
    rw [fX7_out, grd_t M_o, m_isHour hc.1.1 hw.1, Option.bind_some, if_neg q2, if_neg n0, e1, Option.bind_some, e]
