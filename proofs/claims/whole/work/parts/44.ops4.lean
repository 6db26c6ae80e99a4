/-! what was stirred changes nothing else -/
theorem tp_3 {g : Gn} {x p : Nat} : tp (m2 g 0 3 x) p = tp g p := rfl
theorem th_3 {g : Gn} {x : Nat} : th (m2 g 0 3 x) = th g := rfl
theorem y1_3 {g : Gn} {x : Nat} : y1 (m2 g 0 3 x) = m2 (y1 g) 0 3 x := by
  funext c k
  have e2 : m2 g 0 3 x 0 2 = g 0 2 := m2_nk (by decide)
  have e0 : m2 g 0 3 x 0 0 = g 0 0 := m2_nk (by decide)
  by_cases h4 : c = 4
  · subst h4
    rw [m2_ne (by decide), y1_4, y1_4, th_3, e2, e0, tp_3, m2_ne (by decide)]
  · by_cases h0 : c = 0
    · subst h0
      by_cases h2 : k = 2
      · subst h2
        rw [y1_y, e2, m2_nk (by decide), y1_y]
      · rw [y1_0 h2]
        by_cases h3 : k = 3
        · subst h3
          rw [m2_at, m2_at]
        · rw [m2_nk h3, m2_nk h3, y1_0 h2]
    · rw [y1_c h4 h0, m2_ne h0, m2_ne h0, y1_c h4 h0]
theorem yN_3 {g : Gn} {x : Nat} : ∀ n, yN (m2 g 0 3 x) n = m2 (yN g n) 0 3 x
  | 0 => rfl
  | n + 1 => by rw [yN, yN_3 n, y1_3, yN]
theorem so_3 {g : Gn} {x n : Nat} {f : Nat → Nat → Nat} : so (m2 g 0 3 x) n f ↔ so g n f := by
  have : ∀ i, mis (m2 g 0 3 x) f i = mis g f i := by
    intro i
    rw [mis, yN_3, m2_ne (by decide)]
    rfl
  constructor
  · intro h i hi
    rw [← this]
    exact h i hi
  · intro h i hi
    rw [this]
    exact h i hi
theorem put_3 {g : Gn} {x h p : Nat} : put (m2 g 0 3 x) h p = m2 (put g h p) 0 3 x := by
  funext c k
  by_cases h4 : c = 4
  · subst h4
    rw [m2_ne (by decide), put_4, put_4, m2_ne (by decide)]
  · by_cases h5 : c = 5
    · subst h5
      rw [m2_ne (by decide), put_5, put_5, m2_ne (by decide)]
      rfl
    · rw [put_c h4 h5]
      by_cases h0 : c = 0
      · subst h0
        by_cases h3 : k = 3
        · subst h3
          rw [m2_at, m2_at]
        · rw [m2_nk h3, m2_nk h3, put_c (by decide) (by decide)]
      · rw [m2_ne h0, m2_ne h0, put_c h4 h5]
/-- up with one, if it lies -/
def tkup (g : Gn) (h : Nat) : Gn := if g 4 h = 9 then g else take g h
theorem Wf_tkup {g : Gn} (hw : Wf g) {h : Nat} (hh : h < 7) : Wf (tkup g h) := by
  unfold tkup
  split
  · exact hw
  · exact Wf_take hw hh (by assumption)
theorem Sm_tkup {g : Gn} {h : Nat} : Sm g (tkup g h) := by
  unfold tkup
  split
  · exact Sm.rf
  · exact Sm_take
theorem tkup_9 {g : Gn} {h : Nat} : tkup g h 4 h = 9 := by
  unfold tkup
  split
  · assumption
  · rw [take_4, if_pos rfl]
theorem tkup_y {g : Gn} {h : Nat} : tkup g h 0 2 = g 0 2 := by
  unfold tkup
  split
  · rfl
  · rw [take_c (by decide) (by decide)]
section O4
variable {m m' : Nat → Nat → Int32} {l l' : Nat → Nat → Int64} {g : Gn}
theorem c_tkup {a : Nat} (ha : isG a) (hc : CG a m l g) (hw : Wb g) {h : Nat} (hh : h < g 0 1) : ∃ r x m', fX0_takeUp a (nI h) (Mk m l) = some (r, Mk m' l) ∧ CG a m' l (m2 (tkup g h) 0 3 x) ∧ Fr a m m' := by
  by_cases h9 : g 4 h = 9
  · refine ⟨0, g 0 3, m, ?_, ?_, Fr.rf⟩
    · rw [fX0_takeUp, grd_t (G_o ha), c_lies ha hc hw hh, Option.bind_some, if_pos h9, if_pos rfl]
    · rw [tkup, if_pos h9]
      have : m2 g 0 3 (g 0 3) = g := by
        funext c k
        simp only [m2]
        by_cases q : c = 0 ∧ k = 3
        · rw [if_pos q, q.1, q.2]
        · rw [if_neg q]
      rw [this]
      exact hc
  · obtain ⟨m', e, h1, h2⟩ := c_takeUp ha hc hw hh h9
    refine ⟨_, g 0 3 + mv g h, m', e, ?_, h2⟩
    rw [tkup, if_neg h9]
    exact h1
theorem m_tkup (hs : MS m g) (hw : Wb g) {h : Nat} (hh : h < 7) : ∃ r m', fX7_takes 93 (nI h) (Mk m l) = some (r, Mk m' l) ∧ MS m' (tkup g h) ∧ F1 97 m m' := by
  by_cases h9 : g 4 h = 9
  · obtain ⟨m', e, h1, h2⟩ := m_takes9 (l := l) hs hw hh h9
    refine ⟨_, m', e, ?_, h2⟩
    rw [tkup, if_pos h9]
    exact h1
  · obtain ⟨m', e, h1, h2⟩ := m_takes (l := l) hs hw hh h9
    refine ⟨_, m', e, ?_, h2⟩
    rw [tkup, if_neg h9]
    exact h1
end O4
/-- the plots in which it may have lain -/
def plB (g : Gn) (h n : Nat) (f : Nat → Nat → Nat) (p : Nat) : Prop := so (put (tkup g h) h p) n f
theorem op_plots (x : Int32) : Op (fX6_plots 0 x) (fX7_plots 93 x) := by
  refine Op_q (fun z hz => ?_)
  have hw := hz.1.1
  have hy := hz.1.2.2.2
  have hN7 := hw.1.2.1
  have hP5 := hw.1.1
  by_cases q2 : x < 0 ∨ nI (zg z 0 1) ≤ x
  · refine ⟨-1, C6_p (fun m l hc => ?_), C7_p (fun m l hc => ?_)⟩
    · rw [fX6_plots, grd_t X_o, X_r1, Option.bind_some, c_hasHour0 isG_4 hc.1 hw.1 q2, Option.bind_some, if_pos rfl]
    · rw [fX7_plots, grd_t M_o, m_isHour hc.1.1 hw.1, Option.bind_some, if_pos q2, if_pos rfl]
  obtain ⟨h, hh, rfl⟩ := inh (by omega) q2
  have h7 : h < 7 := by omega
  have hex : ∃ b : Nat → Bool, ∀ p, b p = true ↔ plB (zg z) h (zsn z) (zsf z) p := ⟨fun p => @decide (plB (zg z) h (zsn z) (zsf z) p) (Classical.propDecidable _), fun p => @decide_eq_true_iff _ (Classical.propDecidable _)⟩
  obtain ⟨b, hb⟩ := hex
  have hg : ∀ p, p < zg z 0 0 → Wf (put (tkup (zg z) h) h p) ∧ Sm (zg z) (put (tkup (zg z) h) h p) ∧ put (tkup (zg z) h) h p 0 2 = zg z 0 2 := fun p hp => ⟨Wf_put (Wf_tkup hw h7) (by rw [Sm_tkup.2.1]; exact hh) (by rw [Sm_tkup.1]; exact hp) tkup_9, Sm_tkup.tr Sm_put, by rw [put_c (by decide) (by decide), tkup_y]⟩
  have hsk : ∀ g', Sm (zg z) g' → Sok g' (zsn z) (zsf z) := fun g' hs => ⟨hz.2.2.2.2.1, fun i hi => ⟨(hz.2.2.2.2.2 i hi).1, by rw [hs.2.1]; exact (hz.2.2.2.2.2 i hi).2.1, (hz.2.2.2.2.2 i hi).2.2⟩⟩
  refine ⟨orN b (zg z 0 0), C6_q (fun m l hc => ?_), C7_q (fun m l hc => ?_)⟩
  · have key : ∃ m' l', fX6_plots_17 FU 0 (nI h) 0 0 (Mk m l) = some (orN b (zg z 0 0), Mk m' l') ∧ FQ m m' ∧ FQl l l' := by
      refine lpR (fun n j (s : Int32 × (Nat → Nat → Int32) × (Nat → Nat → Int64)) => fX6_plots_17 n 0 (nI h) s.1 (nI j) (Mk s.2.1 s.2.2)) (fun j s => s.1 = orN b j ∧ FQ m s.2.1 ∧ FQl l s.2.2) (fun o => ∃ m' l', o = some (orN b (zg z 0 0), Mk m' l') ∧ FQ m m' ∧ FQl l l') (zg z 0 0) ?_ ?_ FU 0 (0, m, l) (by omega) (by have := FU_big; omega) ⟨rfl, FQ.rf, FQl.rf⟩
      · intro n j s hj hI
        left
        obtain ⟨h1, h2, h3⟩ := hI
        have hcs := CI_FQ hc h2 h3
        obtain ⟨m1, l1, e1, g1, f1, fl1⟩ := c_trial hcs.1 hw.1.1
        obtain ⟨r3, x3, m3, e3, g3, f3⟩ := c_tkup isG_10 g1 hw.1 hh
        have hwt : Wb (m2 (tkup (zg z) h) 0 3 x3) := (Wf_0 (Wf_tkup hw h7) (by decide) (by decide) (by omega)).1
        have hst : Sm (zg z) (m2 (tkup (zg z) h) 0 3 x3) := Sm_tkup.tr (Sm_m2 (by omega))
        obtain ⟨m4, e4, g4, f4⟩ := c_setOnTop isG_10 g3 hwt (h := h) (p := j) (by rw [hst.2.1]; exact hh) (by rw [hst.1]; exact hj)
        rw [put_3] at g4
        have hp := hg j hj
        have fq4 : FQ m m4 := h2.tr (f1.tr ((FQ_Fr f3).tr (FQ_Fr f4)))
        have hcs4 : CSi m4 (zsn z) (zsf z) := CSi_eq hc.2.2.2.2 (fun c q1 q2 => fq4 c (by omega))
        obtain ⟨r, m5, e5, hr, f5⟩ := c_comeTrueIn hcs4 (hsk _ (hp.2.1.tr (Sm_m2 (by omega)))) (Wf_0 hp.1 (by decide) (by decide) (by omega)).1 (by rw [m2_nk (by decide), hp.2.1.1]; exact hz.1.2.1) (by rw [m2_nk (by decide), hp.2.2]; omega) g4
        refine ⟨(orN b (j + 1), m5, l1), ⟨rfl, fq4.tr (FQ_Fr f5), h3.tr fl1⟩, ?_⟩
        have e0 : s.2.1 4 0 = nI (zg z 0 0) := hcs.1.1 0 (by decide)
        rw [fX6_plots_17]
        simp only [X_r1, X_r2, X_r5, bS, G_gI isG_4, e0, if_neg (nI_ge hj (show zg z 0 0 < 2 ^ 31 by omega)), e1, e3, e4, e5, nI_1, h1, orN]
        rcases hr with ⟨q, rfl⟩ | ⟨q, rfl⟩
        · rw [if_neg n0, if_pos ((hb j).mpr (so_3.mp q))]
        · rw [if_pos rfl, if_neg (fun e => q (so_3.mpr ((hb j).mp e)))]
      · intro n s hI
        obtain ⟨h1, h2, h3⟩ := hI
        have e0 : s.2.1 4 0 = nI (zg z 0 0) := (CI_FQ hc h2 h3).1.1 0 (by decide)
        refine ⟨s.2.1, s.2.2, ?_, h2, h3⟩
        rw [fX6_plots_17]
        simp only [X_r1, bS, G_gI isG_4, e0, if_pos (nI_le (Nat.le_refl (zg z 0 0)) (show zg z 0 0 < 2 ^ 31 by omega)), h1]
    obtain ⟨m', l', e, hk⟩ := key
    refine ⟨m', l', ?_, hk⟩
    rw [fX6_plots, grd_t X_o, X_r1, Option.bind_some, c_hasHour isG_4 hc.1 hw.1 hh, Option.bind_some, if_neg n0, e]
  · obtain ⟨m1, e1, c1⟩ := m_looks (m := m) (l := l)
    have s1 := (MR_looks hc.1.2 hw.1.1 c1).2
    have r1 := (MR_looks hc.1.2 hw.1.1 c1).1
    have t1 := MT_F1 hc.1.1 c1.2 (by decide)
    have key : ∃ m', fX7_plots_18 FU 93 (nI h) 0 0 (Mk m1 l) = some (orN b (zg z 0 0), Mk m' l) ∧ MS m' (zg z) ∧ F2 m1 m' := by
      refine lpR (fun n j (s : Int32 × (Nat → Nat → Int32)) => fX7_plots_18 n 93 (nI h) s.1 (nI j) (Mk s.2 l)) (fun j s => s.1 = orN b j ∧ MS s.2 (zg z) ∧ F2 m1 s.2) (fun o => ∃ m', o = some (orN b (zg z 0 0), Mk m' l) ∧ MS m' (zg z) ∧ F2 m1 m') (zg z 0 0) ?_ ?_ FU 0 (0, m1) (by omega) (by have := FU_big; omega) ⟨rfl, s1, fun c _ _ => rfl⟩
      · intro n j s hj hI
        left
        obtain ⟨h1, h2, h3⟩ := hI
        obtain ⟨r3, m3, e3, g3, f3⟩ := m_tkup (l := l) h2 hw.1 h7
        obtain ⟨m4, e4, g4, f4⟩ := m_lays (l := l) g3 (Wf_tkup hw h7).1 h7 (show j < 9 by omega)
        have hp := hg j hj
        have f24 : F2 m1 m4 := h3.tr ((F2_1 f3).tr (F2_1 f4))
        have t4 : MT 95 m4 (put (tkup (zg z) h) h j) := by
          refine MT_S (g := zg z) ?_ hp.2.1
          unfold MT
          rw [f24 95 (by decide) (by decide)]
          exact t1
        have n4 : MSi m4 (zsn z) (zsf z) := by
          unfold MSi
          rw [f24 93 (by decide) (by decide), f24 100 (by decide) (by decide), c1.2 93 (by decide), c1.2 100 (by decide)]
          exact hc.2.2.2.2
        obtain ⟨r, m5, e5, hr, g5, f5⟩ := m_isSo (l := l) g4 t4 n4 (hsk _ hp.2.1) hp.1 (by rw [hp.2.1.1]; exact hz.1.2.1) (by rw [hp.2.2]; omega)
        have f25 : F2 m1 m5 := f24.tr f5
        obtain ⟨m6, e6, c6⟩ := m_lets (m := m5) (l := l)
        refine ⟨(orN b (j + 1), m6), ⟨rfl, MS_lets (by rw [f25 101 (by decide) (by decide)]; exact r1) hP5 c6, f25.tr (F2_1 c6.2)⟩, ?_⟩
        have e0 : s.2 95 0 = nI (zg z 0 0) := by rw [h3 95 (by decide) (by decide)]; exact t1.1
        rw [fX7_plots_18]
        simp only [M_r2, bS, a95_0, e0, if_neg (nI_ge hj (show zg z 0 0 < 2 ^ 31 by omega)), e3, e4, e5, e6, nI_1, h1, orN]
        rcases hr with ⟨q, rfl⟩ | ⟨q, rfl⟩
        · rw [if_neg n0, if_pos ((hb j).mpr q)]
        · rw [if_pos rfl, if_neg (fun e => q ((hb j).mp e)), Int32.or_zero]
      · intro n s hI
        obtain ⟨h1, h2, h3⟩ := hI
        have e0 : s.2 95 0 = nI (zg z 0 0) := by rw [h3 95 (by decide) (by decide)]; exact t1.1
        refine ⟨s.2, ?_, h2, h3⟩
        rw [fX7_plots_18]
        simp only [M_r2, bS, a95_0, e0, if_pos (nI_le (Nat.le_refl (zg z 0 0)) (show zg z 0 0 < 2 ^ 31 by omega)), h1]
    obtain ⟨m', e, h1, h2⟩ := key
    refine ⟨m', ?_, fun c q1 q2 q3 => ?_, ?_, h1⟩
    · rw [fX7_plots, grd_t M_o, m_isHour hc.1.1 hw.1, Option.bind_some, if_neg q2, if_neg n0, e1, Option.bind_some, e]
    · rw [h2 c (by omega) (by omega), c1.2 c (by omega)]
    · unfold MT
      rw [h2 95 (by decide) (by decide)]
      exact t1
theorem op_kinds (x : Int32) : Op (fX6_kinds 0 x) (fX7_kinds 93 x) := by
  refine Op_q (fun z hz => ?_)
  have hw := hz.1.1
  have hy := hz.1.2.2.2
  have hN7 := hw.1.2.1
  have hP5 := hw.1.1
  by_cases q2 : x < 0 ∨ nI (zg z 0 1) ≤ x
  · refine ⟨-1, C6_p (fun m l hc => ?_), C7_p (fun m l hc => ?_)⟩
    · rw [fX6_kinds, grd_t X_o, X_r1, Option.bind_some, c_hasHour0 isG_4 hc.1 hw.1 q2, Option.bind_some, if_pos rfl]
    · rw [fX7_kinds, grd_t M_o, m_isHour hc.1.1 hw.1, Option.bind_some, if_pos q2, if_pos rfl]
  obtain ⟨h, hh, rfl⟩ := inh (by omega) q2
  have h7 : h < 7 := by omega
  have hex : ∃ b : Nat → Bool, ∀ p, b p = true ↔ so (m2 (zg z) 2 h p) (zsn z) (zsf z) := ⟨fun p => @decide (so (m2 (zg z) 2 h p) (zsn z) (zsf z)) (Classical.propDecidable _), fun p => @decide_eq_true_iff _ (Classical.propDecidable _)⟩
  obtain ⟨b, hb⟩ := hex
  have hsk : ∀ k, Sok (m2 (zg z) 2 h k) (zsn z) (zsf z) := fun k => ⟨hz.2.2.2.2.1, fun i hi => ⟨(hz.2.2.2.2.2 i hi).1, by rw [m2_ne (by decide)]; exact (hz.2.2.2.2.2 i hi).2.1, (hz.2.2.2.2.2 i hi).2.2⟩⟩
  refine ⟨orN b 4, C6_q (fun m l hc => ?_), C7_q (fun m l hc => ?_)⟩
  · have key : ∃ m' l', fX6_kinds_17 FU 0 (nI h) 0 0 (Mk m l) = some (orN b 4, Mk m' l') ∧ FQ m m' ∧ FQl l l' := by
      refine lpR (fun n j (s : Int32 × (Nat → Nat → Int32) × (Nat → Nat → Int64)) => fX6_kinds_17 n 0 (nI h) s.1 (nI j) (Mk s.2.1 s.2.2)) (fun j s => s.1 = orN b j ∧ FQ m s.2.1 ∧ FQl l s.2.2) (fun o => ∃ m' l', o = some (orN b 4, Mk m' l') ∧ FQ m m' ∧ FQl l l') 4 ?_ ?_ FU 0 (0, m, l) (by omega) (by have := FU_big; omega) ⟨rfl, FQ.rf, FQl.rf⟩
      · intro n j s hj hI
        left
        obtain ⟨h1, h2, h3⟩ := hI
        have hcs := CI_FQ hc h2 h3
        obtain ⟨m1, l1, e1, g1, f1, fl1⟩ := c_trial hcs.1 hw.1.1
        obtain ⟨m4, e4, g4, f4⟩ := c_setKind isG_10 g1 hw.1 (h := h) (k := j) hh
        have fq4 : FQ m m4 := h2.tr (f1.tr (FQ_Fr f4))
        have hcs4 : CSi m4 (zsn z) (zsf z) := CSi_eq hc.2.2.2.2 (fun c q1 q2 => fq4 c (by omega))
        obtain ⟨r, m5, e5, hr, f5⟩ := c_comeTrueIn hcs4 (hsk j) (Wf_2 hw hj).1 (by rw [m2_ne (by decide)]; exact hz.1.2.1) (by rw [m2_ne (by decide)]; omega) g4
        refine ⟨(orN b (j + 1), m5, l1), ⟨rfl, fq4.tr (FQ_Fr f5), h3.tr fl1⟩, ?_⟩
        rw [fX6_kinds_17]
        simp only [X_r1, X_r2, X_r5, bS, if_neg (show ¬ (4 : Int32) ≤ nI j by rw [show (4 : Int32) = nI 4 from rfl]; exact nI_ge hj (by decide)), e1, e4, e5, nI_1, h1, orN]
        rcases hr with ⟨q, rfl⟩ | ⟨q, rfl⟩
        · rw [if_neg n0, if_pos ((hb j).mpr q)]
        · rw [if_pos rfl, if_neg (fun e => q ((hb j).mp e))]
      · intro n s hI
        obtain ⟨h1, h2, h3⟩ := hI
        refine ⟨s.2.1, s.2.2, ?_, h2, h3⟩
        rw [fX6_kinds_17, if_pos (by decide), h1]
    obtain ⟨m', l', e, hk⟩ := key
    refine ⟨m', l', ?_, hk⟩
    rw [fX6_kinds, grd_t X_o, X_r1, Option.bind_some, c_hasHour isG_4 hc.1 hw.1 hh, Option.bind_some, if_neg n0, e]
  · have hset : ∀ (m0 : Nat → Nat → Int32) (g0 : Gn) (k : Nat), MT 95 m0 g0 → MT 95 (m2 m0 95 (2 + h) (nI k)) (m2 g0 2 h k) := by
      intro m0 g0 k ht
      refine ⟨by rw [m2_nk (by omega), m2_ne (by decide)]; exact ht.1, by rw [m2_nk (by omega), m2_ne (by decide)]; exact ht.2.1, fun i hi => ?_, fun y hy => ?_⟩
      · rw [m2_nk (show 9 + i ≠ 2 + h by omega), m2_ne (show 3 ≠ 2 by decide)]
        refine ⟨?_, (ht.2.2.1 i hi).2⟩
        by_cases e : i = h
        · subst e
          rw [m2_at, m2_at]
        · rw [m2_nk (by omega), m2_nk e]
          exact (ht.2.2.1 i hi).1
      · rw [m2_nk (by omega), m2_ne (by decide)]
        exact ht.2.2.2 y hy
    have hms : ∀ (m0 : Nat → Nat → Int32) (g0 : Gn) (k : Nat), MS m0 g0 ↔ MS m0 (m2 g0 2 h k) := fun m0 g0 k => Iff.rfl
    have ek : m 95 (2 + h) = nI (zg z 2 h) := (hc.1.1.2.2.1 h h7).1
    have hres : ∀ a, m2 (m2 (zg z) 2 h a) 2 h (zg z 2 h) = zg z := by
      intro a
      funext c k
      simp only [m2]
      by_cases e : c = 2 ∧ k = h
      · rw [if_pos e, e.1, e.2]
      · rw [if_neg e, if_neg e]
    have hmm : ∀ a b, m2 (m2 (zg z) 2 h a) 2 h b = m2 (zg z) 2 h b := by
      intro a b
      funext c k
      simp only [m2]
      by_cases e : c = 2 ∧ k = h
      · rw [if_pos e, if_pos e]
      · rw [if_neg e, if_neg e, if_neg e]
    have key : ∃ m', fX7_kinds_24 FU 93 (nI h) (nI (zg z 2 h)) 0 0 (Mk m l) = some (orN b 4, Mk m' l) ∧ FN m m' ∧ MT 95 m' (zg z) ∧ MS m' (zg z) := by
      refine lpR (fun n j (s : Int32 × (Nat → Nat → Int32)) => fX7_kinds_24 n 93 (nI h) (nI (zg z 2 h)) s.1 (nI j) (Mk s.2 l)) (fun j s => s.1 = orN b j ∧ (∃ a, MT 95 s.2 (m2 (zg z) 2 h a)) ∧ MS s.2 (zg z) ∧ FN m s.2) (fun o => ∃ m', o = some (orN b 4, Mk m' l) ∧ FN m m' ∧ MT 95 m' (zg z) ∧ MS m' (zg z)) 4 ?_ ?_ FU 0 (0, m) (by omega) (by have := FU_big; omega) ⟨rfl, ⟨zg z 2 h, ?_⟩, hc.1.2, FN.rf⟩
      · intro n j s hj hI
        left
        obtain ⟨h1, ⟨a, h2⟩, h3, h4⟩ := hI
        have t1 := hset _ _ j h2
        rw [hmm] at t1
        have s1 : MS (m2 s.2 95 (2 + h) (nI j)) (m2 (zg z) 2 h j) := by
          rw [← hms, MS_MR, m2_ne (by decide)]
          exact h3
        have n4 : MSi (m2 s.2 95 (2 + h) (nI j)) (zsn z) (zsf z) := by
          unfold MSi
          rw [m2_ne (by decide), m2_ne (by decide), h4 93 (by decide) (by decide) (by decide), h4 100 (by decide) (by decide) (by decide)]
          exact hc.2.2.2.2
        obtain ⟨r, m5, e5, hr, g5, f5⟩ := m_isSo (l := l) s1 t1 n4 (hsk j) (Wf_2 hw hj) (by rw [m2_ne (by decide)]; exact hz.1.2.1) (by rw [m2_ne (by decide)]; omega)
        refine ⟨(orN b (j + 1), m5), ⟨rfl, ⟨j, ?_⟩, (hms _ _ j).mpr g5, fun c q1 q2 q3 => ?_⟩, ?_⟩
        · show MT 95 m5 _
          unfold MT
          rw [f5 95 (by decide) (by decide)]
          exact t1
        · show m5 c = m c
          by_cases e106 : c = 106
          · omega
          · rw [f5 c q2 e106, m2_ne q1, h4 c q1 q2 q3]
        · rw [fX7_kinds_24, if_neg (by rw [show (3 : Int32) = nI 3 from rfl]; exact Int32.not_lt.mpr (nI_le (by omega) (by decide)))]
          simp only [M_r2, bS, ad2, b95 (show 2 + h < 56 by omega), e5, nI_1, h1, orN]
          rcases hr with ⟨q, rfl⟩ | ⟨q, rfl⟩
          · rw [if_neg n0, if_pos ((hb j).mpr q)]
          · rw [if_pos rfl, if_neg (fun e => q ((hb j).mp e)), Int32.or_zero]
      · intro n s hI
        obtain ⟨h1, ⟨a, h2⟩, h3, h4⟩ := hI
        have t1 := hset _ _ (zg z 2 h) h2
        rw [hres] at t1
        refine ⟨m2 s.2 95 (2 + h) (nI (zg z 2 h)), ?_, fun c q1 q2 q3 => ?_, t1, ?_⟩
        · rw [fX7_kinds_24, if_pos (by decide)]
          simp only [M_r2, bS, ad2, b95 (show 2 + h < 56 by omega), h1]
        · rw [m2_ne q1, h4 c q1 q2 q3]
        · rw [MS_MR, m2_ne (by decide)]
          exact h3
      · have : m2 (zg z) 2 h (zg z 2 h) = zg z := by
          funext c k
          simp only [m2]
          by_cases e : c = 2 ∧ k = h
          · rw [if_pos e, e.1, e.2]
          · rw [if_neg e]
        rw [this]
        exact hc.1.1
    obtain ⟨m', e, hk⟩ := key
    refine ⟨m', ?_, hk⟩
    rw [fX7_kinds, grd_t M_o, m_isHour hc.1.1 hw.1, Option.bind_some, if_neg q2, if_neg n0, M_r2, Option.bind_some, ad2, a95 (by omega), Option.bind_some, ek, e]
