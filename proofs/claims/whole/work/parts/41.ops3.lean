theorem Og_yN {g : Gn} (ho : Og g) {n : Nat} (h : g 0 2 + n ≤ 999) : Og (yN g n) := ⟨Wf_yN ho.1 ho.2.1 n (by omega), by rw [yN_0 g (by decide)]; exact ho.2.1, by rw [yN_0 g (by decide)]; exact ho.2.2.1, by rw [yN_y]; exact h⟩
/-- the model passes n years -/
theorem m_pass {m : Nat → Nat → Int32} {l : Nat → Nat → Int64} {g : Gn} (hs : MS m g) (ht : MT 95 m g) (hw : Wf g) (hP : 0 < g 0 0) {N : Nat} (hN : N ≤ 1000) (hy : g 0 2 + N ≤ 100000) : ∃ m', fX7_pass_37 FU 93 (nI N) 0 0 (Mk m l) = some (nI (tN g N), Mk m' l) ∧ MS m' (yN g N) ∧ F1 97 m m' := by
  refine lpR (fun n j (s : Int32 × (Nat → Nat → Int32)) => fX7_pass_37 n 93 (nI N) s.1 (nI j) (Mk s.2 l)) (fun j s => s.1 = nI (tN g j) ∧ MS s.2 (yN g j) ∧ F1 97 m s.2) (fun o => ∃ m', o = some (nI (tN g N), Mk m' l) ∧ MS m' (yN g N) ∧ F1 97 m m') N ?_ ?_ FU 0 (0, m) (by omega) (by have := FU_big; omega) ⟨rfl, hs, F1.rf⟩
  · intro n j s hj hI
    left
    obtain ⟨h1, h2, h3⟩ := hI
    obtain ⟨m', e, h4, h5⟩ := m_passes (l := l) h2 (MT_S (MT_F1 ht h3 (by decide)) Sm_yN) (Wf_yN hw hP j (by omega)) (by rw [yN_0 g (by decide)]; exact hP) true
    refine ⟨(nI (tN g (j + 1)), m'), ⟨rfl, h4, h3.tr h5⟩, ?_⟩
    rw [if_pos rfl] at e
    rw [fX7_pass_37, if_neg (nI_ge hj (by omega)), e, Option.bind_some, h1]
    by_cases q : th (yN g j) = true
    · simp only [q, Bool.and_self, if_true, if_neg n0, nI_1, tN, ct]
    · simp only [q, Bool.and_false, Bool.false_eq_true, if_false, if_true, nI_1, tN, ct, Int32.add_zero, Nat.add_zero]
  · intro n s hI
    obtain ⟨h1, h2, h3⟩ := hI
    refine ⟨s.2, ?_, h2, h3⟩
    rw [fX7_pass_37, if_pos (nI_le (Nat.le_refl N) (by omega)), h1]
theorem op_pass (x : Int32) : Op (fX6_pass 0 x) (fX7_pass 93 x) := by
  intro z hz
  have hw := hz.1.1
  by_cases q : x < 1 ∨ 20 < x
  · refine ⟨-1, z, C6_p (fun m l hc => ?_), C7_p (fun m l hc => ?_), hz⟩
    · rw [fX6_pass, grd_t X_o, c_within]
      simp only [Option.bind_some, if_pos q, if_true]
    · rw [fX7_pass, grd_t M_o, m_in]
      simp only [Option.bind_some, if_pos q, if_true]
  obtain ⟨N, hN1, hN2, rfl⟩ := inr (a := 1) (b := 20) (by decide) (by decide) q
  have hy := hz.1.2.2.2
  have ea : nI (zg z 0 2) + nI N = nI (zg z 0 2 + N) := nI_add _ _
  by_cases q2 : zg z 0 2 + N ≤ 999
  · have q3 : nI (zg z 0 2 + N) ≤ 999 := nI_le (b := 999) q2 (by decide)
    refine ⟨nI (tN (zg z) N), (yN (zg z) N, (more 8 (zpn z), push 8 (zpn z) (zpf z) (zg z)), z.2.2.1, z.2.2.2.1, z.2.2.2.2), fun m l hc => ?_, fun m l hc => ?_, Zok_push hz (Og_yN hz.1 q2) Sm_yN⟩
    · obtain ⟨m1, l1, e1, g1, f1, h1⟩ := CI_push hc hw
      obtain ⟨m3, e3, g3, f3⟩ := c_passYears isG_4 g1 hw.1 hz.1.2.1 (N := N) (by omega) (by omega)
      refine ⟨m3, l1, ?_, h1 m3 _ g3 f3, fun c hc => by rw [f3 c (by omega), f1 c hc]⟩
      rw [fX6_pass, grd_t X_o, c_within]
      simp only [Option.bind_some, if_neg q, if_neg n0, X_r1, G_gI isG_4, hc.1.1 2 (by decide), ea, if_pos q3, X_r3, e1, e3]
    · obtain ⟨m1, e1, t1, s1, f1, h1⟩ := MI_push (l := l) hc hz
      obtain ⟨m3, e3, s3, f3⟩ := m_pass (l := l) s1 t1 hw hz.1.2.1 (N := N) (by omega) (by omega)
      refine ⟨m3, ?_, h1 m3 _ (MT_S (MT_F1 t1 f3 (by decide)) Sm_yN) s3 f3, fun c hc => by rw [f3 c (by omega), f1 c hc]⟩
      rw [fX7_pass, grd_t M_o, m_in]
      simp only [Option.bind_some, if_neg q, if_neg n0, M_r4, a97_0, hc.1.2.1, ea, if_pos q3, e1, e3]
  · have q3 : ¬ nI (zg z 0 2 + N) ≤ 999 := by
      rw [show (999 : Int32) = nI 999 from rfl]
      exact nI_ge (by omega) (by omega)
    refine ⟨-2, z, C6_p (fun m l hc => ?_), C7_p (fun m l hc => ?_), hz⟩
    · rw [fX6_pass, grd_t X_o, c_within]
      simp only [Option.bind_some, if_neg q, if_neg n0, X_r1, G_gI isG_4, hc.1.1 2 (by decide), ea, if_neg q3]
    · rw [fX7_pass, grd_t M_o, m_in]
      simp only [Option.bind_some, if_neg q, if_neg n0, M_r4, a97_0, hc.1.2.1, ea, if_neg q3]
theorem Og_of {g g' : Gn} (ho : Og g) (hw : Wf g') (hs : Sm g g') (hy : g' 0 2 = g 0 2) : Og g' := ⟨hw, by rw [hs.1]; exact ho.2.1, by rw [hs.2.1]; exact ho.2.2.1, by rw [hy]; exact ho.2.2.2⟩
theorem op_up (x : Int32) : Op (fX6_up 0 x) (fX7_up 93 x) := by
  intro z hz
  have hw := hz.1.1
  have hN7 := hw.1.2.1
  by_cases q : x < 0 ∨ nI (zg z 0 1) ≤ x
  · refine ⟨-1, z, C6_p (fun m l hc => ?_), C7_p (fun m l hc => ?_), hz⟩
    · rw [fX6_up, grd_t X_o]
      simp only [X_r1, Option.bind_some, c_hasHour0 isG_4 hc.1 hw.1 q, if_true]
    · rw [fX7_up, grd_t M_o, m_isHour hc.1.1 hw.1]
      simp only [Option.bind_some, if_pos q, if_true]
  obtain ⟨h, hh, rfl⟩ := inh (by omega) q
  have h7 : h < 7 := by omega
  by_cases h9 : zg z 4 h = 9
  · refine ⟨-2, z, C6_p (fun m l hc => ?_), C7_p (fun m l hc => ?_), hz⟩
    · rw [fX6_up, grd_t X_o]
      simp only [X_r1, Option.bind_some, c_hasHour isG_4 hc.1 hw.1 hh, if_neg n0, c_lies isG_4 hc.1 hw.1 hh, if_pos h9, if_true]
    · rw [fX7_up, grd_t M_o, m_isHour hc.1.1 hw.1]
      simp only [Option.bind_some, if_neg q, if_neg n0, M_r4, ad7, a97 (show 7 + h < 21 by omega), (hc.1.2.2.2.2 h h7).1, plM_1 (pl_le hw.1 h7), if_pos h9]
  · have hst : Sm (zg z) (m2 (take (zg z) h) 0 3 (zg z 0 3 + mv (zg z) h)) := Sm_take.tr (Sm_m2 (by omega))
    refine ⟨nI (mv (zg z) h), (m2 (take (zg z) h) 0 3 (zg z 0 3 + mv (zg z) h), (more 8 (zpn z), push 8 (zpn z) (zpf z) (zg z)), z.2.2.1, z.2.2.2.1, z.2.2.2.2), fun m l hc => ?_, fun m l hc => ?_, Zok_push hz (Og_of hz.1 (Wf_0 (Wf_take hw h7 h9) (by decide) (by decide) (by omega)) hst (by rw [m2_nk (by decide), take_c (by decide) (by decide)])) hst⟩
    · obtain ⟨m1, l1, e1, g1, f1, h1⟩ := CI_push hc hw
      obtain ⟨m3, e3, g3, f3⟩ := c_takeUp isG_4 g1 hw.1 hh h9
      refine ⟨m3, l1, ?_, h1 m3 _ g3 f3, fun c hc => by rw [f3 c (by omega), f1 c hc]⟩
      rw [fX6_up, grd_t X_o]
      simp only [X_r1, Option.bind_some, c_hasHour isG_4 hc.1 hw.1 hh, if_neg n0, c_lies isG_4 hc.1 hw.1 hh, if_neg h9, X_r3, e1, e3]
    · obtain ⟨m1, e1, t1, s1, f1, h1⟩ := MI_push (l := l) hc hz
      obtain ⟨m3, e3, s3, f3⟩ := m_takes (l := l) s1 hw.1 h7 h9
      have e31 : m3 97 1 = nI (zg z 0 3) := by rw [s3.2.1, take_c (by decide) (by decide)]
      refine ⟨m2 m3 97 1 (nI (zg z 0 3 + mv (zg z) h)), ?_, h1 _ _ (MT_S (MT_F1 t1 (F1.tr f3 F1.st) (by decide)) hst) (MS_1 s3) (F1.tr f3 F1.st), fun c hc => by rw [m2_ne (by omega), f3 c (by omega), f1 c hc]⟩
      rw [fX7_up, grd_t M_o, m_isHour hc.1.1 hw.1]
      simp only [Option.bind_some, if_neg q, if_neg n0, M_r4, ad7, a97 (show 7 + h < 21 by omega), (hc.1.2.2.2.2 h h7).1, plM_1 (pl_le hw.1 h7), if_neg h9, e1, e3, a97_1, e31, nI_add, b97_1]
theorem op_dig (x : Int32) : Op (fX6_dig 0 x) (fX7_dig 93 x) := by
  intro z hz
  have hw := hz.1.1
  have hP5 := hw.1.1
  by_cases q : x < 0 ∨ nI (zg z 0 0) ≤ x
  · refine ⟨-1, z, C6_p (fun m l hc => ?_), C7_p (fun m l hc => ?_), hz⟩
    · rw [fX6_dig, grd_t X_o]
      simp only [X_r1, Option.bind_some, c_hasPlot0 isG_4 hc.1 hw.1 q, if_true]
    · rw [fX7_dig, grd_t M_o, m_isPlot hc.1.1 hw.1]
      simp only [Option.bind_some, if_pos q, if_true]
  obtain ⟨p, hp, rfl⟩ := inh (by omega) q
  have hr := hw.1.2.2.2.1 p hp
  by_cases h9 : zg z 1 p = 9
  · refine ⟨-2, z, C6_p (fun m l hc => ?_), C7_p (fun m l hc => ?_), hz⟩
    · rw [fX6_dig, grd_t X_o]
      simp only [X_r1, Option.bind_some, c_hasPlot isG_4 hc.1 hw.1 hp, if_neg n0, c_roomOf isG_4 hc.1 hw.1 hp, h9]
      rfl
    · rw [fX7_dig, grd_t M_o, m_isPlot hc.1.1 hw.1]
      simp only [Option.bind_some, if_neg q, if_neg n0, M_r4, ad2, a97 (show 2 + p < 21 by omega), hc.1.2.2.2.1 p hp, h9]
      rfl
  · have hst : Sm (zg z) (m2 (zg z) 1 p (zg z 1 p + 1)) := Sm_m2 (by omega)
    have hwd : Wf (m2 (zg z) 1 p (zg z 1 p + 1)) := Wf_1 hw (by omega)
    have hpd : p < m2 (zg z) 1 p (zg z 1 p + 1) 0 0 := by rw [m2_ne (by decide)]; exact hp
    refine ⟨nI (zg z 1 p + 1), (m2 (zg z) 1 p (zg z 1 p + 1), (more 8 (zpn z), push 8 (zpn z) (zpf z) (zg z)), z.2.2.1, z.2.2.2.1, z.2.2.2.2), fun m l hc => ?_, fun m l hc => ?_, Zok_push hz (Og_of hz.1 hwd hst (by rw [m2_ne (by decide)])) hst⟩
    · obtain ⟨m1, l1, e1, g1, f1, h1⟩ := CI_push hc hw
      obtain ⟨m3, e3, g3, f3⟩ := c_deepen isG_4 g1 hw.1 hp
      refine ⟨m3, l1, ?_, h1 m3 _ g3 f3, fun c hc => by rw [f3 c (by omega), f1 c hc]⟩
      rw [fX6_dig, grd_t X_o]
      simp only [X_r1, Option.bind_some, c_hasPlot isG_4 hc.1 hw.1 hp, if_neg n0, c_roomOf isG_4 hc.1 hw.1 hp, if_pos (show nI (zg z 1 p) < 9 from nI_lt (b := 9) (by omega) (by decide)), X_r3, e1, e3, c_roomOf isG_4 g3 hwd.1 hpd, m2_at]
    · obtain ⟨m1, e1, t1, s1, f1, h1⟩ := MI_push (l := l) hc hz
      refine ⟨m2 m1 97 (2 + p) (nI (zg z 1 p + 1)), ?_, h1 _ _ (MT_S (MT_F1 t1 F1.st (by decide)) hst) (MS_2 s1 (by omega)) F1.st, fun c hc => by rw [m2_ne (by omega), f1 c hc]⟩
      have hne : ¬ nI (zg z 1 p) = 9 := by
        rw [show (9 : Int32) = nI 9 from rfl, nI_inj (by omega) (by decide)]
        exact h9
      rw [fX7_dig, grd_t M_o, m_isPlot hc.1.1 hw.1]
      simp only [Option.bind_some, if_neg q, if_neg n0, M_r4, ad2, a97 (show 2 + p < 21 by omega), hc.1.2.2.2.1 p hp, if_neg hne, e1, s1.2.2.1 p hp, nI_1, b97 (show 2 + p < 21 by omega), m2_at]
theorem op_put (x y : Int32) : Op (fX6_put 0 x y) (fX7_put 93 x y) := by
  intro z hz
  have hw := hz.1.1
  have hP5 := hw.1.1
  have hN7 := hw.1.2.1
  by_cases q : x < 0 ∨ nI (zg z 0 1) ≤ x
  · refine ⟨-1, z, C6_p (fun m l hc => ?_), C7_p (fun m l hc => ?_), hz⟩
    · rw [fX6_put, grd_t X_o]
      simp only [X_r1, Option.bind_some, c_hasHour0 isG_4 hc.1 hw.1 q, if_true]
    · rw [fX7_put, grd_t M_o, m_isHour hc.1.1 hw.1]
      simp only [Option.bind_some, if_pos q, if_true]
  obtain ⟨h, hh, rfl⟩ := inh (by omega) q
  have h7 : h < 7 := by omega
  by_cases q2 : y < 0 ∨ nI (zg z 0 0) ≤ y
  · refine ⟨-1, z, C6_p (fun m l hc => ?_), C7_p (fun m l hc => ?_), hz⟩
    · rw [fX6_put, grd_t X_o]
      simp only [X_r1, Option.bind_some, c_hasHour isG_4 hc.1 hw.1 hh, if_neg n0, c_hasPlot0 isG_4 hc.1 hw.1 q2, if_true]
    · rw [fX7_put, grd_t M_o, m_isHour hc.1.1 hw.1]
      simp only [Option.bind_some, if_neg q, if_neg n0, m_isPlot hc.1.1 hw.1, if_pos q2, if_true]
  obtain ⟨p, hp, rfl⟩ := inh (by omega) q2
  by_cases q3 : zg z 4 h = 9 ∧ fro (zg z) = false ∧ fit (zg z) (zg z 2 h) p = true
  · have hwp := Wf_put hw hh hp q3.1
    have hpp : p < put (zg z) h p 0 0 := by rw [Sm_put.1]; exact hp
    refine ⟨nI (put (zg z) h p 1 p) - nI (us (put (zg z) h p) p), (put (zg z) h p, (more 8 (zpn z), push 8 (zpn z) (zpf z) (zg z)), z.2.2.1, z.2.2.2.1, z.2.2.2.2), fun m l hc => ?_, fun m l hc => ?_, Zok_push hz (Og_of hz.1 hwp Sm_put (put_c (by decide) (by decide))) Sm_put⟩
    · obtain ⟨m1, l1, e1, g1, f1, h1⟩ := CI_push hc hw
      obtain ⟨m3, e3, g3, f3⟩ := c_setOnTop isG_4 g1 hw.1 hh hp
      refine ⟨m3, l1, ?_, h1 m3 _ g3 f3, fun c hc => by rw [f3 c (by omega), f1 c hc]⟩
      rw [fX6_put, grd_t X_o]
      simp only [X_r1, Option.bind_some, c_hasHour isG_4 hc.1 hw.1 hh, if_neg n0, c_hasPlot isG_4 hc.1 hw.1 hp, c_canBePutIn isG_4 hc.1 hw.1 hh hp, if_pos q3, X_r3, e1, e3, c_freeIn isG_4 g3 hwp.1 hpp]
    · obtain ⟨m1, e1, t1, s1, f1, h1⟩ := MI_push (l := l) hc hz
      obtain ⟨m3, e3, s3, f3⟩ := m_lays (l := l) s1 hw.1 h7 (show p < 9 by omega)
      have t3 := MT_S (MT_F1 t1 f3 (by decide)) (Sm_put (h := h) (p := p))
      refine ⟨m3, ?_, h1 m3 _ t3 s3 f3, fun c hc => by rw [f3 c (by omega), f1 c hc]⟩
      have ef : fro (zg z) = false := q3.2.1
      rw [fX7_put, grd_t M_o, m_isHour hc.1.1 hw.1]
      simp only [Option.bind_some, if_neg q, if_neg n0, m_isPlot hc.1.1 hw.1, if_neg q2, m_mayPut hc.1.2 hc.1.1 hw h7 hp, if_pos (show zg z 4 h = 9 ∧ fit (zg z) (zg z 2 h) p = true from ⟨q3.1, q3.2.2⟩), m_isFrost hc.1.2 hc.1.1 hw.1, ef, Bool.false_eq_true, if_false, if_true, e1, e3, M_r4, ad2, a97 (show 2 + p < 21 by omega), s3.2.2.1 p hpp, m_allNeeds (Or.inl ⟨rfl, rfl⟩) t3 s3 hwp (show p < 9 by omega)]
  · refine ⟨-2, z, C6_p (fun m l hc => ?_), C7_p (fun m l hc => ?_), hz⟩
    · rw [fX6_put, grd_t X_o]
      simp only [X_r1, Option.bind_some, c_hasHour isG_4 hc.1 hw.1 hh, if_neg n0, c_hasPlot isG_4 hc.1 hw.1 hp, c_canBePutIn isG_4 hc.1 hw.1 hh hp, if_neg q3, if_true]
    · rw [fX7_put, grd_t M_o, m_isHour hc.1.1 hw.1]
      simp only [Option.bind_some, if_neg q, if_neg n0, m_isPlot hc.1.1 hw.1, if_neg q2, m_mayPut hc.1.2 hc.1.1 hw h7 hp]
      by_cases q4 : zg z 4 h = 9 ∧ fit (zg z) (zg z 2 h) p = true
      · have ef : fro (zg z) = true := by
          cases ef : fro (zg z)
          · exact absurd ⟨q4.1, ef, q4.2⟩ q3
          · rfl
        simp only [if_pos q4, if_neg n0, m_isFrost hc.1.2 hc.1.1 hw.1, ef, Option.bind_some, if_true]
      · simp only [if_neg q4, if_true]
theorem op_undo6 {z : Zt} (hz : Zok z) {n : Nat} (hn : zpn z = n + 1) : C6 (fX6_undo 0) z (nI n) (zpf z n, (n, zpf z), z.2.2.1, z.2.2.2.1, z.2.2.2.2) := by
  intro m l hc
  have hlast := hz.2.1.2 n (by omega)
  have h2 := hc.2.1
  rw [hn] at h2
  obtain ⟨m1, l1, e1, s1, g1, f1, f2⟩ := S_fetch isS_p h2 hlast.1.1.1.1
  refine ⟨m1, l1, ?_, CI_mk hc g1 s1 (Sh_eq isS_k (f := zkf z) hc.2.2.1 (fun c q1 q2 => f1 c (by omega) (by omega)) (fun c q1 q2 => f2 c (by omega))) (fun c hc => f1 c (by omega) (by omega)), fun c hc => f1 c (by omega) (by omega)⟩
  rw [fX6_undo, grd_t X_o]
  simp only [X_r3, X_r1, Option.bind_some, e1, if_neg n0, S_gI isS_p, s1.2.1]
theorem op_undo7 {z : Zt} (hz : Zok z) {n : Nat} (hn : zpn z = n + 1) : C7 (fX7_undo 93) z (nI n) (zpf z n, (n, zpf z), z.2.2.1, z.2.2.2.1, z.2.2.2.2) := by
  intro m l hc
  have h8 := hz.2.1.1
  have hlast := hz.2.1.2 n (by omega)
  have h2 := hc.2.1
  rw [hn] at h2
  obtain ⟨m1, e1, r1, f1⟩ := m_undo22 (m := m2 m 93 6 (nI n)) (l := l) (n := n) m2_at (by omega)
  have hne : ¬ nI (n + 1) = 0 := by
    rw [show (0 : Int32) = nI 0 from rfl, nI_inj (by omega) (by decide)]
    omega
  have e93 : m1 93 = m2 m 93 6 (nI n) 93 := f1 93 (by decide)
  refine ⟨m1, ?_, MI_mk hc (g' := zpf z n) ?_ ?_ (n := n) (f := zpf z) ⟨?_, ?_⟩ (MRw_eq (f := zkf z) hc.2.2.1 ?_ ?_) ?_ ?_ ?_ ?_, fun c hc => ?_⟩
  · have e4 : pI 7 93 6 (nI n) (Mk m l) = some (Mk (m2 m 93 6 (nI n)) l) := M_pI
    have e5 : gI 7 93 6 (Mk m l) = some (nI (n + 1)) := by rw [M_gI, h2.1]
    rw [fX7_undo, grd_t M_o, e5]
    rw [Option.bind_some, if_neg hne, Option.bind_some, nI_pred, e4, Option.bind_some, e1]
  · refine MT_S (g := zg z) ?_ hlast.2
    unfold MT
    rw [f1 95 (by decide), m2_ne (by decide)]
    exact hc.1.1
  · refine MR_eq (h2.2 n (by omega)) hlast.1.1.1.1 (fun k hk => ?_)
    rw [r1 k hk, m2_ne (by decide)]
  · rw [e93, m2_at]
  · intro i hi
    rw [f1 98 (by decide), m2_ne (by decide)]
    exact h2.2 i (by omega)
  · rw [e93, m2_nk (by decide)]
  · rw [f1 99 (by decide), m2_ne (by decide)]
  · rw [e93, m2_nk (by decide)]
  · rw [e93, m2_nk (by decide)]
  · rw [f1 94 (by decide), m2_ne (by decide)]
  · rw [f1 100 (by decide), m2_ne (by decide)]
  · rw [f1 c (by omega), m2_ne (by omega)]
theorem op_undo : Op (fX6_undo 0) (fX7_undo 93) := by
  intro z hz
  by_cases q : zpn z = 0
  · refine ⟨-2, z, C6_p (fun m l hc => ?_), C7_p (fun m l hc => ?_), hz⟩
    · have h2 := hc.2.1
      rw [q] at h2
      rw [fX6_undo, grd_t X_o]
      simp only [X_r3, X_r1, Option.bind_some, S_fetch0 isS_p h2, if_true]
    · have h2 := hc.2.1.1
      rw [q] at h2
      rw [fX7_undo, grd_t M_o, M_gI, Option.bind_some, h2, if_pos (show nI 0 = 0 from rfl)]
  · obtain ⟨n, hn⟩ : ∃ n, zpn z = n + 1 := ⟨zpn z - 1, by omega⟩
    have h8 := hz.2.1.1
    have hlast := hz.2.1.2 n (by omega)
    refine ⟨nI n, _, op_undo6 hz hn, op_undo7 hz hn, ?_⟩
    obtain ⟨h1, h2, h3, h4, h5⟩ := hz
    have hs := hlast.2
    refine ⟨hlast.1, ⟨by show n ≤ 8; omega, fun i hi => ?_⟩, ⟨h3.1, fun i hi => ⟨(h3.2 i hi).1, hs.sy.tr (h3.2 i hi).2⟩⟩, h4, ⟨h5.1, fun i hi => ?_⟩⟩
    · have hi : i < n := hi
      exact ⟨(h2.2 i (by omega)).1, hs.sy.tr (h2.2 i (by omega)).2⟩
    · have := h5.2 i hi
      refine ⟨this.1, ?_, this.2.2⟩
      show zsf z i 1 < zpf z n 0 1
      rw [hs.2.1]
      exact this.2.1
theorem op_back6 {z : Zt} (hz : Zok z) {n : Nat} (hn : zkn z = n + 1) : C6 (fX6_back 0) z (nI n) (zkf z n, (0, zpf z), (n, zkf z), z.2.2.2.1, z.2.2.2.2) := by
  intro m l hc
  have hlast := hz.2.2.1.2 n (by omega)
  have h2 := hc.2.2.1
  rw [hn] at h2
  obtain ⟨m1, l1, e1, s1, g1, f1, f2⟩ := S_fetch isS_k h2 hlast.1.1.1.1
  have hp1 : Sh 16 8 18 m1 l1 (zpn z) (zpf z) := Sh_eq isS_p hc.2.1 (fun c q1 q2 => f1 c (by omega) (by omega)) (fun c q1 q2 => f2 c (by omega))
  obtain ⟨m3, e3, s3, f3⟩ := S_empty isS_p hp1
  have s1' : Sh 66 2 68 m3 l1 n (zkf z) := Sh_eq isS_k s1 (fun c q1 q2 => f3 c (by omega)) (fun c q1 q2 => rfl)
  refine ⟨m3, l1, ?_, CI_mk hc (CG_eq g1 (fun c q1 q2 => f3 c (by omega)) rfl) s3 s1' (fun c hc => by rw [f3 c (by omega), f1 c (by omega) (by omega)]), fun c hc => by rw [f3 c (by omega), f1 c (by omega) (by omega)]⟩
  rw [fX6_back, grd_t X_o]
  simp only [X_r4, X_r3, X_r1, Option.bind_some, e1, if_neg n0, e3, S_gI isS_k, s1'.2.1]
theorem op_back7 {z : Zt} (hz : Zok z) {n : Nat} (hn : zkn z = n + 1) : C7 (fX7_back 93) z (nI n) (zkf z n, (0, zpf z), (n, zkf z), z.2.2.2.1, z.2.2.2.2) := by
  intro m l hc
  have h8 := hz.2.2.1.1
  have hlast := hz.2.2.1.2 n (by omega)
  have h2 := hc.2.2.1
  rw [hn] at h2
  obtain ⟨m1, e1, r1, f1⟩ := m_back22 (m := m2 m 93 8 (nI n)) (l := l) (n := n) m2_at (by omega)
  have hne : ¬ nI (n + 1) = 0 := by
    rw [show (0 : Int32) = nI 0 from rfl, nI_inj (by omega) (by decide)]
    omega
  have e93 : m1 93 = m2 m 93 8 (nI n) 93 := f1 93 (by decide)
  refine ⟨m2 m1 93 6 0, ?_, MI_mk hc (g' := zkf z n) ?_ ?_ (n := 0) (f := zpf z) (n2 := n) (f2 := zkf z) ⟨m2_at, fun i hi => absurd hi (by omega)⟩ ⟨?_, ?_⟩ ?_ ?_ ?_ ?_, fun c hc => ?_⟩
  · have e4 : pI 7 93 8 (nI n) (Mk m l) = some (Mk (m2 m 93 8 (nI n)) l) := M_pI
    have e5 : gI 7 93 8 (Mk m l) = some (nI (n + 1)) := by rw [M_gI, h2.1]
    rw [fX7_back, grd_t M_o, e5]
    rw [Option.bind_some, if_neg hne, Option.bind_some, nI_pred, e4, Option.bind_some, e1]
  · refine MT_S (g := zg z) ?_ hlast.2
    unfold MT
    rw [m2_ne (by decide), f1 95 (by decide), m2_ne (by decide)]
    exact hc.1.1
  · refine MR_eq (h2.2 n (by omega)) hlast.1.1.1.1 (fun k hk => ?_)
    rw [m2_ne (by decide), r1 k hk, m2_ne (by decide)]
  · rw [m2_nk (by decide), e93, m2_at]
  · intro i hi
    rw [m2_ne (by decide), f1 99 (by decide), m2_ne (by decide)]
    exact h2.2 i (by omega)
  · rw [m2_nk (by decide), e93, m2_nk (by decide)]
  · rw [m2_nk (by decide), e93, m2_nk (by decide)]
  · rw [m2_ne (by decide), f1 94 (by decide), m2_ne (by decide)]
  · rw [m2_ne (by decide), f1 100 (by decide), m2_ne (by decide)]
  · rw [m2_ne (by omega), f1 c (by omega), m2_ne (by omega)]
theorem op_back : Op (fX6_back 0) (fX7_back 93) := by
  intro z hz
  by_cases q : zkn z = 0
  · refine ⟨-2, z, C6_p (fun m l hc => ?_), C7_p (fun m l hc => ?_), hz⟩
    · have h2 := hc.2.2.1
      rw [q] at h2
      rw [fX6_back, grd_t X_o]
      simp only [X_r4, X_r1, Option.bind_some, S_fetch0 isS_k h2, if_true]
    · have h2 := hc.2.2.1.1
      rw [q] at h2
      rw [fX7_back, grd_t M_o, M_gI, Option.bind_some, h2, if_pos (show nI 0 = 0 from rfl)]
  · obtain ⟨n, hn⟩ : ∃ n, zkn z = n + 1 := ⟨zkn z - 1, by omega⟩
    have h8 := hz.2.2.1.1
    have hlast := hz.2.2.1.2 n (by omega)
    refine ⟨nI n, _, op_back6 hz hn, op_back7 hz hn, ?_⟩
    obtain ⟨h1, h2, h3, h4, h5⟩ := hz
    have hs := hlast.2
    refine ⟨hlast.1, ⟨Nat.zero_le _, fun i hi => absurd hi (Nat.not_lt_zero i)⟩, ⟨by show n ≤ 2; omega, fun i hi => ?_⟩, h4, ⟨h5.1, fun i hi => ?_⟩⟩
    · have hi : i < n := hi
      exact ⟨(h3.2 i (by omega)).1, hs.sy.tr (h3.2 i (by omega)).2⟩
    · have := h5.2 i hi
      refine ⟨this.1, ?_, this.2.2⟩
      show zsf z i 1 < zkf z n 0 1
      rw [hs.2.1]
      exact this.2.1
theorem op_keep : Op (fX6_keep 0) (fX7_keep 93) := by
  intro z hz
  have hw := hz.1.1
  have h8 := hz.2.2.1.1
  by_cases q : zkn z = 2
  · refine ⟨-3, z, C6_p (fun m l hc => ?_), C7_p (fun m l hc => ?_), hz⟩
    · rw [fX6_keep, grd_t X_o]
      simp only [X_r4, X_r1, Option.bind_some, S_isFull isS_k h8 hc.2.2.1.2.1, if_neg (show ¬ zkn z < 2 by omega), if_neg n0]
    · have e5 : gI 7 93 8 (Mk m l) = some (nI 2) := by rw [M_gI, hc.2.2.1.1, q]
      rw [fX7_keep, grd_t M_o, e5, Option.bind_some, if_pos (show nI 2 = 2 from rfl)]
  · have hlt : zkn z < 2 := by omega
    have em : more 2 (zkn z) = zkn z + 1 := by rw [more, if_pos hlt]
    refine ⟨nI (zkn z + 1), (zg z, z.2.1, (zkn z + 1, push 2 (zkn z) (zkf z) (zg z)), z.2.2.2.1, z.2.2.2.2), fun m l hc => ?_, fun m l hc => ?_, ?_⟩
    · obtain ⟨m1, l1, e1, s1, f1, f2⟩ := S_store isS_k hc.2.2.1 hc.1 hw.1.1
      rw [em] at s1
      refine ⟨m1, l1, ?_, CI_mk hc (CG_eq hc.1 (fun c q1 q2 => f1 c (by omega)) (f2 4 (by omega))) (Sh_eq isS_p (f := zpf z) hc.2.1 (fun c q1 q2 => f1 c (by omega)) (fun c q1 q2 => f2 c (by omega))) s1 (fun c hc => f1 c (by omega)), fun c hc => f1 c (by omega)⟩
      rw [fX6_keep, grd_t X_o]
      simp only [X_r4, X_r1, Option.bind_some, S_isFull isS_k h8 hc.2.2.1.2.1, if_pos hlt, if_true, e1, S_gI isS_k, s1.2.1]
    · obtain ⟨m1, e1, c1⟩ := m_keep13 (l := l) hc.2.2.1.1 hlt
      have hne : ¬ nI (zkn z) = 2 := by
        rw [show (2 : Int32) = nI 2 from rfl, nI_inj (by omega) (by decide)]
        exact q
      refine ⟨m2 m1 93 8 (nI (zkn z + 1)), ?_, MI_mk hc (g' := zg z) ?_ ?_ (n := zpn z) (f := zpf z) (MRw_eq hc.2.1 ?_ ?_) (MRw_put (by decide) hw.1.1 hc.2.2.1.2 hc.1.2 (fun i hi => (hz.2.2.1.2 i hi).1.1.1.1) c1 (fun i hi => ?_) ?_) ?_ ?_ ?_ ?_, fun c hc => ?_⟩
      · have e5 : gI 7 93 8 (Mk m l) = some (nI (zkn z)) := by rw [M_gI, hc.2.2.1.1]
        rw [fX7_keep, grd_t M_o, e5, Option.bind_some, if_neg hne, e1]
      · unfold MT
        rw [m2_ne (by decide), c1.2.2 95 (by decide)]
        exact hc.1.1
      · rw [MS_MR, m2_ne (by decide), c1.2.2 97 (by decide)]
        exact hc.1.2
      · rw [m2_nk (by decide), c1.2.2 93 (by decide)]
      · rw [m2_ne (by decide), c1.2.2 98 (by decide)]
      · simp only [push]
        rw [if_pos hlt, if_neg (by omega)]
      · simp only [push]
        rw [if_pos hlt, if_pos trivial]
      · rw [m2_nk (by decide), c1.2.2 93 (by decide)]
      · rw [m2_nk (by decide), c1.2.2 93 (by decide)]
      · rw [m2_ne (by decide), c1.2.2 94 (by decide)]
      · rw [m2_ne (by decide), c1.2.2 100 (by decide)]
      · rw [m2_ne (by omega), c1.2.2 c (by omega)]
    · obtain ⟨h1, h2, h3, h4, h5⟩ := hz
      refine ⟨h1, h2, ⟨by show zkn z + 1 ≤ 2; omega, fun i hi => ?_⟩, h4, h5⟩
      have hi : i < zkn z + 1 := hi
      show Og (push 2 (zkn z) (zkf z) (zg z) i) ∧ Sm (zg z) (push 2 (zkn z) (zkf z) (zg z) i)
      unfold push
      rw [if_pos hlt]
      by_cases q2 : i = zkn z
      · rw [if_pos q2]
        exact ⟨h1, Sm.rf⟩
      · rw [if_neg q2]
        exact h3.2 i (by omega)
