/-! questions of the green of now -/
theorem CI_text {m m' : Nat → Nat → Int32} {l : Nat → Nat → Int64} {z : Zt} {n : Nat} {f : Nat → Int32} (h : CI z m l) (hf : ∀ c, c ≠ 1 → c ≠ 2 → m' c = m c) (ht : CTx m' n f) : CI (z.1, z.2.1, z.2.2.1, (n, f), z.2.2.2.2) m' l := by
  obtain ⟨h1, h2, h3, h4, h5⟩ := h
  exact ⟨CG_eq h1 (fun c q1 q2 => hf c (by omega) (by omega)) rfl, Sh_eq isS_p h2 (fun c q1 q2 => hf c (by omega) (by omega)) (fun c q1 q2 => rfl), Sh_eq isS_k h3 (fun c q1 q2 => hf c (by omega) (by omega)) (fun c q1 q2 => rfl), ht, CSi_eq h5 (fun c q1 q2 => hf c (by omega) (by omega))⟩
theorem MI_text {m m' : Nat → Nat → Int32} {z : Zt} {n : Nat} {f : Nat → Int32} (h : MI z m) (hf : ∀ c, c ≠ 93 → c ≠ 94 → m' c = m c) (hf2 : ∀ k, k ≠ 1 → m' 93 k = m 93 k) (ht : MTx m' n f) : MI (z.1, z.2.1, z.2.2.1, (n, f), z.2.2.2.2) m' := by
  obtain ⟨h1, h2, h3, h4, h5⟩ := h
  refine ⟨⟨?_, ?_⟩, MRw_eq h2 (hf2 6 (by decide)) (hf 98 (by decide) (by decide)), MRw_eq h3 (hf2 8 (by decide)) (hf 99 (by decide) (by decide)), ht, ?_⟩
  · unfold MT
    rw [hf 95 (by decide) (by decide)]
    exact h1.1
  · rw [MS_MR, hf 97 (by decide) (by decide)]
    exact h1.2
  · unfold MSi
    rw [hf2 10 (by decide), hf 100 (by decide) (by decide)]
    exact h5
theorem T_o {m : Nat → Nat → Int32} {l : Nat → Nat → Int64} : isO 3 1 (Mk m l) := ⟨show 1 < 107 by decide, by decide⟩
theorem T_gI {m : Nat → Nat → Int32} {l : Nat → Nat → Int64} {k : Nat} : gI 3 1 k (Mk m l) = some (m 1 k) := rfl
theorem T_pI {m : Nat → Nat → Int32} {l : Nat → Nat → Int64} {k : Nat} {x : Int32} : pI 3 1 k x (Mk m l) = some (Mk (m2 m 1 k x) l) := rfl
theorem T_r1 {m : Nat → Nat → Int32} {l : Nat → Nat → Int64} : gR 3 1 1 (Mk m l) = some 2 := gRk ⟨show 1 < 107 by decide, by decide⟩ (by decide) (by decide) (by decide)
theorem T_r2 {m : Nat → Nat → Int32} {l : Nat → Nat → Int64} : gR 3 1 2 (Mk m l) = some 3 := gRk ⟨show 1 < 107 by decide, by decide⟩ (by decide) (by decide) (by decide)
theorem chr_k : ∀ k, k < 127 → vp_nar (tyA 9) (((nI k).toUInt32 % 65536).toInt32) = nI k := by decide
theorem a94 {m : Nat → Nat → Int32} {l : Nat → Nat → Int64} {j : Nat} (hj : j < 200) : aI 8 94 (nI j) (Mk m l) = some (m 94 j) := shN (by decide) (by decide) (by exact hj)
theorem b94 {m : Nat → Nat → Int32} {l : Nat → Nat → Int64} {j : Nat} (hj : j < 200) {x : Int32} : bI 8 94 (nI j) x (Mk m l) = some (Mk (m2 m 94 j x) l) := shP (by decide) (by decide) (by exact hj)
theorem n0 : ¬ (1 : Int32) = 0 := by decide
theorem op_write (x : Int32) : Op (fX6_write 0 x) (fX7_write 93 x) := by
  intro z hz
  by_cases q : x < 32 ∨ 126 < x
  · refine ⟨-1, z, C6_p (fun m l hc => ?_), C7_p (fun m l hc => ?_), hz⟩
    · rw [fX6_write, grd_t X_o]
      by_cases q1 : x < 32
      · rw [if_pos q1]
      · rw [if_neg q1, if_neg (Int32.not_le.mpr (q.resolve_left q1))]
    · rw [fX7_write, grd_t M_o, m_in]
      simp only [Option.bind_some, if_pos q, if_true]
  · obtain ⟨k, hk1, hk2, rfl⟩ := inr (a := 32) (b := 126) (by decide) (by decide) q
    have q1 : ¬ nI k < 32 := fun e => q (Or.inl e)
    have q2 : nI k ≤ 126 := Int32.not_lt.mp (fun e => q (Or.inr e))
    have hn := hz.2.2.2.1.1
    by_cases hfull : ztn z = 200
    · refine ⟨-3, z, C6_p (fun m l hc => ?_), C7_p (fun m l hc => ?_), hz⟩
      · have h4 := hc.2.2.2.1
        rw [fX6_write, grd_t X_o, if_neg q1, if_pos q2]
        simp only [X_r0, Option.bind_some, fX3_add, grd_t T_o, T_gI, h4.1, hfull]
        rfl
      · have h4 := hc.2.2.2.1
        rw [fX7_write, grd_t M_o, m_in]
        simp only [Option.bind_some, if_neg q, if_neg n0, M_gI, h4.1, hfull]
        rfl
    · have hlt : ztn z < 200 := by omega
      refine ⟨nI (ztn z + 1), (z.1, z.2.1, z.2.2.1, (ztn z + 1, fun i => if i = ztn z then nI k else ztf z i), z.2.2.2.2), fun m l hc => ?_, fun m l hc => ?_, ?_⟩
      · have h4 := hc.2.2.2.1
        have e2 : ∀ y : Int32, bI 9 2 (nI (ztn z)) y (Mk m l) = some (Mk (m2 m 2 (ztn z) (vp_nar (tyA 9) y)) l) := fun y => A_put (t := 9) (n := 200) (by decide) (by decide) hlt (by decide)
        refine ⟨m2 (m2 m 2 (ztn z) (nI k)) 1 0 (nI (ztn z + 1)), l, ?_, CI_text hc (fun c h1 h2 => by rw [m2_ne h1, m2_ne h2]) ⟨m2_at, fun i hi => ?_⟩, fun c hc => by rw [m2_ne (by omega), m2_ne (by omega)]⟩
        · rw [fX6_write, grd_t X_o, if_neg q1, if_pos q2]
          simp only [X_r0, Option.bind_some, fX3_add, grd_t T_o, T_gI, h4.1, if_pos (show nI (ztn z) < 200 from nI_lt (b := 200) hlt (by decide)), T_r1, e2, T_pI, chr_k k (by omega), m2_ne (show 1 ≠ 2 by decide), nI_1, if_neg n0, m2_at]
        · rw [m2_ne (by decide)]
          show _ = (if i = ztn z then nI k else ztf z i)
          by_cases q3 : i = ztn z
          · subst q3
            rw [m2_at, if_pos rfl]
          · rw [m2_nk q3, if_neg q3]
            exact h4.2 i (by omega)
      · have h4 := hc.2.2.2.1
        refine ⟨m2 (m2 m 94 (ztn z) (nI k)) 93 1 (nI (ztn z + 1)), ?_, MI_text hc (fun c h1 h2 => by rw [m2_ne h1, m2_ne h2]) (fun k hk => by rw [m2_nk hk, m2_ne (by decide)]) ⟨m2_at, fun i hi => ?_⟩, fun c hc => by rw [m2_ne (by omega), m2_ne (by omega)]⟩
        · rw [fX7_write, grd_t M_o, m_in]
          have hne : ¬ nI (ztn z) = 200 := by
            rw [show (200 : Int32) = nI 200 from rfl, nI_inj (by omega) (by decide)]
            exact hfull
          simp only [Option.bind_some, if_neg q, if_neg n0, M_gI, h4.1, if_neg hne, M_r0, b94 hlt, m2_ne (show 93 ≠ 94 by decide), nI_1, M_pI, m2_at]
        · rw [m2_ne (by decide)]
          show _ = (if i = ztn z then nI k else ztf z i)
          by_cases q3 : i = ztn z
          · subst q3
            rw [m2_at, if_pos rfl]
          · rw [m2_nk q3, if_neg q3]
            exact h4.2 i (by omega)
      · refine ⟨hz.1, hz.2.1, hz.2.2.1, ⟨by show ztn z + 1 ≤ 200; omega, fun i hi => ?_⟩, hz.2.2.2.2⟩
        have hi : i < ztn z + 1 := hi
        show ∃ k', 32 ≤ k' ∧ k' ≤ 126 ∧ (if i = ztn z then nI k else ztf z i) = nI k'
        by_cases q3 : i = ztn z
        · exact ⟨k, hk1, hk2, by rw [if_pos q3]⟩
        · rw [if_neg q3]
          exact hz.2.2.2.1.2 i (by omega)
theorem op_wipe : Op (fX6_wipe 0) (fX7_wipe 93) := by
  intro z hz
  refine ⟨nI (ztn z), (z.1, z.2.1, z.2.2.1, (0, ztf z), z.2.2.2.2), fun m l hc => ?_, fun m l hc => ?_, ?_⟩
  · refine ⟨m2 m 1 0 0, l, ?_, CI_text hc (fun c h1 h2 => m2_ne h1) ⟨m2_at, fun i hi => absurd hi (by omega)⟩, fun c hc => m2_ne (by omega)⟩
    rw [fX6_wipe, grd_t X_o]
    simp only [X_r0, Option.bind_some, fX3_empty, grd_t T_o, T_gI, T_pI, hc.2.2.2.1.1]
  · refine ⟨m2 m 93 1 0, ?_, MI_text hc (fun c h1 h2 => m2_ne h1) (fun k hk => m2_nk hk) ⟨m2_at, fun i hi => absurd hi (by omega)⟩, fun c hc => m2_ne (by omega)⟩
    rw [fX7_wipe, grd_t M_o]
    simp only [M_gI, Option.bind_some, M_pI, hc.2.2.2.1.1]
  · exact ⟨hz.1, hz.2.1, hz.2.2.1, ⟨Nat.zero_le _, fun i hi => absurd hi (Nat.not_lt_zero i)⟩, hz.2.2.2.2⟩
theorem op_plot (x y : Int32) : Op (fX6_plot 0 x y) (fX7_plot 93 x y) := by
  refine Op_q (fun z hz => ?_)
  have hw := hz.1.1
  have hP5 := hw.1.1
  by_cases q : x < 0 ∨ nI (zg z 0 0) ≤ x
  · refine ⟨-1, C6_p (fun m l hc => ?_), C7_p (fun m l hc => ?_)⟩
    · rw [fX6_plot, grd_t X_o]
      simp only [X_r1, Option.bind_some, c_hasPlot0 isG_4 hc.1 hw.1 q, if_true]
    · rw [fX7_plot, grd_t M_o, m_isPlot hc.1.1 hw.1]
      simp only [Option.bind_some, if_pos q, if_true]
  · obtain ⟨p, hp, rfl⟩ := inh (by omega) q
    have c1 : ∀ m l, CI z m l → fX0_hasPlot 4 (nI p) (Mk m l) = some (1, Mk m l) := fun m l hc => c_hasPlot isG_4 hc.1 hw.1 hp
    have m1 : ∀ m l, MI z m → fX7_isPlot 93 (nI p) (Mk m l) = some (1, Mk m l) := fun m l hc => by rw [m_isPlot hc.1.1 hw.1, if_neg q]
    have e2 : ∀ m, MI z m → m 97 (2 + p) = nI (zg z 1 p) := fun m hc => hc.1.2.2.2.1 p hp
    have ea : ∀ m l, MI z m → aI 8 97 (nI (2 + p)) (Mk m l) = some (nI (zg z 1 p)) := fun m l hc => by rw [a97 (by omega), e2 m hc]
    by_cases y0 : y = 0
    · refine ⟨nI (zg z 1 p), C6_p (fun m l hc => ?_), C7_p (fun m l hc => ?_)⟩
      · rw [fX6_plot, grd_t X_o]
        simp only [X_r1, Option.bind_some, c1 m l hc, if_neg n0, if_pos y0, c_roomOf isG_4 hc.1 hw.1 hp]
      · rw [fX7_plot, grd_t M_o, m1 m l hc]
        simp only [Option.bind_some, if_neg n0, if_pos y0, M_r4, ad2, ea m l hc]
    · by_cases y1 : y = 1
      · refine ⟨nI (zg z 1 p) - nI (us (zg z) p), C6_p (fun m l hc => ?_), C7_p (fun m l hc => ?_)⟩
        · rw [fX6_plot, grd_t X_o]
          simp only [X_r1, Option.bind_some, c1 m l hc, if_neg n0, if_neg y0, if_pos y1, c_freeIn isG_4 hc.1 hw.1 hp]
        · rw [fX7_plot, grd_t M_o, m1 m l hc]
          simp only [Option.bind_some, if_neg n0, if_neg y0, if_pos y1, M_r4, ad2, ea m l hc, m_allNeeds (Or.inl ⟨rfl, rfl⟩) hc.1.1 hc.1.2 hw (show p < 9 by omega)]
      · by_cases y2 : y = 2
        · refine ⟨nI (ht (zg z) p), C6_p (fun m l hc => ?_), C7_p (fun m l hc => ?_)⟩
          · rw [fX6_plot, grd_t X_o]
            simp only [X_r1, Option.bind_some, c1 m l hc, if_neg n0, if_neg y0, if_neg y1, if_pos y2, c_heightOf isG_4 hc.1 hw.1 (show p < 9 by omega)]
          · rw [fX7_plot, grd_t M_o, m1 m l hc]
            simp only [Option.bind_some, if_neg n0, if_neg y0, if_neg y1, if_pos y2, m_manyIn hc.1.2 hw.1 (show p < 9 by omega)]
        · by_cases y3 : y = 3
          · refine ⟨if tp (zg z) p = 7 then -4 else nI (tp (zg z) p), C6_p (fun m l hc => ?_), C7_p (fun m l hc => ?_)⟩
            · rw [fX6_plot, grd_t X_o]
              simp only [X_r1, Option.bind_some, c1 m l hc, if_neg n0, if_neg y0, if_neg y1, if_neg y2, if_pos y3, c_topOf isG_4 hc.1 hw.1 hp]
            · rw [fX7_plot, grd_t M_o, m1 m l hc]
              simp only [Option.bind_some, if_neg n0, if_neg y0, if_neg y1, if_neg y2, if_pos y3, m_topOf hc.1.2 hw.1 hw.un (show p < 9 by omega)]
          · refine ⟨-1, C6_p (fun m l hc => ?_), C7_p (fun m l hc => ?_)⟩
            · rw [fX6_plot, grd_t X_o]
              simp only [X_r1, Option.bind_some, c1 m l hc, if_neg n0, if_neg y0, if_neg y1, if_neg y2, if_neg y3]
            · rw [fX7_plot, grd_t M_o, m1 m l hc]
              simp only [Option.bind_some, if_neg n0, if_neg y0, if_neg y1, if_neg y2, if_neg y3]
theorem op_hour (x y : Int32) : Op (fX6_hour 0 x y) (fX7_hour 93 x y) := by
  refine Op_q (fun z hz => ?_)
  have hw := hz.1.1
  have hP5 := hw.1.1
  have hN7 := hw.1.2.1
  by_cases q : x < 0 ∨ nI (zg z 0 1) ≤ x
  · refine ⟨-1, C6_p (fun m l hc => ?_), C7_p (fun m l hc => ?_)⟩
    · rw [fX6_hour, grd_t X_o]
      simp only [X_r1, Option.bind_some, c_hasHour0 isG_4 hc.1 hw.1 q, if_true]
    · rw [fX7_hour, grd_t M_o, m_isHour hc.1.1 hw.1]
      simp only [Option.bind_some, if_pos q, if_true]
  · obtain ⟨h, hh, rfl⟩ := inh (by omega) q
    have h7 : h < 7 := by omega
    have c1 : ∀ m l, CI z m l → fX0_hasHour 4 (nI h) (Mk m l) = some (1, Mk m l) := fun m l hc => c_hasHour isG_4 hc.1 hw.1 hh
    have m1 : ∀ m l, MI z m → fX7_isHour 93 (nI h) (Mk m l) = some (1, Mk m l) := fun m l hc => by rw [m_isHour hc.1.1 hw.1, if_neg q]
    have e7 : ∀ m l, MI z m → aI 8 97 (nI (7 + h)) (Mk m l) = some (plM (zg z 4 h)) := fun m l hc => by rw [a97 (by omega), (hc.1.2.2.2.2 h h7).1]
    have e14 : ∀ m l, MI z m → zg z 4 h ≠ 9 → aI 8 97 (nI (14 + h)) (Mk m l) = some (nI (zg z 5 h)) := fun m l hc h9 => by rw [a97 (by omega), (hc.1.2.2.2.2 h h7).2 h9]
    have k2 : ∀ m l, MI z m → aI 8 95 (nI (2 + h)) (Mk m l) = some (nI (zg z 2 h)) := fun m l hc => by rw [a95 (by omega), (hc.1.1.2.2.1 h h7).1]
    have k3 : ∀ m l, MI z m → aI 8 95 (nI (9 + h)) (Mk m l) = some (nI (zg z 3 h)) := fun m l hc => by rw [a95 (by omega), (hc.1.1.2.2.1 h h7).2]
    by_cases yq : y < 0 ∨ 4 < y
    · refine ⟨-1, C6_p (fun m l hc => ?_), C7_p (fun m l hc => ?_)⟩
      · have y0 : ¬ y = 0 := fun e => by subst e; revert yq; decide
        have y1 : ¬ y = 1 := fun e => by subst e; revert yq; decide
        have y2 : ¬ y = 2 := fun e => by subst e; revert yq; decide
        have y3 : ¬ y = 3 := fun e => by subst e; revert yq; decide
        have y4 : ¬ y = 4 := fun e => by subst e; revert yq; decide
        rw [fX6_hour, grd_t X_o]
        simp only [X_r1, Option.bind_some, c1 m l hc, if_neg n0, if_neg y0, if_neg y1, if_neg y2, if_neg y3, if_neg y4]
      · rw [fX7_hour, grd_t M_o, m1 m l hc]
        simp only [Option.bind_some, if_neg n0, m_in, if_pos yq, if_true]
    · obtain ⟨k, _, hk, rfl⟩ := inr (a := 0) (b := 4) (by decide) (by decide) yq
      have mi : ∀ μ, fX7_in (nI k) 0 4 μ = some (1, μ) := fun μ => by rw [m_in, if_neg yq]
      have : k = 0 ∨ k = 1 ∨ k = 2 ∨ k = 3 ∨ k = 4 := by omega
      rcases this with rfl | rfl | rfl | rfl | rfl
      · refine ⟨nI (zg z 2 h), C6_p (fun m l hc => ?_), C7_p (fun m l hc => ?_)⟩
        · rw [fX6_hour, grd_t X_o]
          simp only [X_r1, Option.bind_some, c1 m l hc, if_neg n0, if_pos (show nI 0 = 0 from rfl), c_kindOf isG_4 hc.1 hw.1 hh]
        · rw [fX7_hour, grd_t M_o, m1 m l hc]
          simp only [Option.bind_some, if_neg n0, mi, M_r4, M_r2, ad7, ad2, e7 m l hc, if_pos (show nI 0 = 0 from rfl), k2 m l hc]
      · refine ⟨nI (zg z 3 h), C6_p (fun m l hc => ?_), C7_p (fun m l hc => ?_)⟩
        · rw [fX6_hour, grd_t X_o]
          simp only [X_r1, Option.bind_some, c1 m l hc, if_neg n0, if_neg (show ¬ nI 1 = 0 by decide), if_pos (show nI 1 = 1 from rfl), c_worthOf isG_4 hc.1 hw.1 hh]
        · rw [fX7_hour, grd_t M_o, m1 m l hc]
          simp only [Option.bind_some, if_neg n0, mi, M_r4, M_r2, ad7, ad9, e7 m l hc, if_neg (show ¬ nI 1 = 0 by decide), if_pos (show nI 1 = 1 from rfl), k3 m l hc]
      · refine ⟨plI (zg z 4 h), C6_p (fun m l hc => ?_), C7_p (fun m l hc => ?_)⟩
        · rw [fX6_hour, grd_t X_o]
          simp only [X_r1, Option.bind_some, c1 m l hc, if_neg n0, if_neg (show ¬ nI 2 = 0 by decide), if_neg (show ¬ nI 2 = 1 by decide), if_pos (show nI 2 = 2 from rfl), c_placeOf isG_4 hc.1 hw.1 hh]
        · rw [fX7_hour, grd_t M_o, m1 m l hc]
          simp only [Option.bind_some, if_neg n0, mi, M_r4, M_r2, ad7, e7 m l hc, if_neg (show ¬ nI 2 = 0 by decide), if_neg (show ¬ nI 2 = 1 by decide), if_pos (show nI 2 = 2 from rfl), plM_1 (pl_le hw.1 h7)]
          rw [plI, plM]
          split <;> rfl
      · refine ⟨if zg z 4 h = 9 then -4 else nI (zg z 5 h), C6_p (fun m l hc => ?_), C7_p (fun m l hc => ?_)⟩
        · rw [fX6_hour, grd_t X_o]
          simp only [X_r1, Option.bind_some, c1 m l hc, if_neg n0, if_neg (show ¬ nI 3 = 0 by decide), if_neg (show ¬ nI 3 = 1 by decide), if_neg (show ¬ nI 3 = 2 by decide), if_pos (show nI 3 = 3 from rfl), c_lies isG_4 hc.1 hw.1 hh]
          by_cases h9 : zg z 4 h = 9
          · simp only [if_pos h9, if_true]
          · simp only [if_neg h9, if_neg n0, c_depthOf isG_4 hc.1 hw.1 hh, Option.bind_some, (hc.1.2.2.1 h h7).2.2.2 h9]
        · rw [fX7_hour, grd_t M_o, m1 m l hc]
          simp only [Option.bind_some, if_neg n0, mi, M_r4, M_r2, ad7, e7 m l hc, if_neg (show ¬ nI 3 = 0 by decide), if_neg (show ¬ nI 3 = 1 by decide), if_neg (show ¬ nI 3 = 2 by decide), if_pos (show nI 3 = 3 from rfl), plM_1 (pl_le hw.1 h7)]
          by_cases h9 : zg z 4 h = 9
          · simp only [if_pos h9]
          · simp only [if_neg h9, ad14, e14 m l hc h9, Option.bind_some]
      · refine ⟨if zg z 4 h = 9 then -4 else nI (nd (bk (zg z) h) (zg z 2 h)), C6_p (fun m l hc => ?_), C7_p (fun m l hc => ?_)⟩
        · rw [fX6_hour, grd_t X_o]
          simp only [X_r1, Option.bind_some, c1 m l hc, if_neg n0, if_neg (show ¬ nI 4 = 0 by decide), if_neg (show ¬ nI 4 = 1 by decide), if_neg (show ¬ nI 4 = 2 by decide), if_neg (show ¬ nI 4 = 3 by decide), if_pos (show nI 4 = 4 from rfl), c_lies isG_4 hc.1 hw.1 hh]
          by_cases h9 : zg z 4 h = 9
          · simp only [if_pos h9, if_true]
          · simp only [if_neg h9, if_neg n0, c_needOf isG_4 hc.1 hw.1 h7 h9, Option.bind_some]
        · rw [fX7_hour, grd_t M_o, m1 m l hc]
          simp only [Option.bind_some, if_neg n0, mi, M_r4, M_r2, ad7, e7 m l hc, if_neg (show ¬ nI 4 = 0 by decide), if_neg (show ¬ nI 4 = 1 by decide), if_neg (show ¬ nI 4 = 2 by decide), if_neg (show ¬ nI 4 = 3 by decide), plM_1 (pl_le hw.1 h7)]
          by_cases h9 : zg z 4 h = 9
          · simp only [if_pos h9]
          · have hb := (hw.1.2.2.2.2 h h7).2.2
            have hk4 := (hw.1.2.2.2.2 h h7).1
            have epl : plM (zg z 4 h) = nI (zg z 4 h) := by rw [plM, if_neg h9]
            simp only [if_neg h9, ad14, ad2, e14 m l hc h9, k2 m l hc, Option.bind_some, epl]
            by_cases h0 : zg z 5 h = 0
            · rw [h0, show nI 0 - 1 = -1 by decide, m_lyingN hc.1.2 hw.1 (by omega)]
              have := m_kindOf (m := m) (l := l) (f := 0) (Or.inl ⟨rfl, rfl⟩) hc.1.1 (x := 7) (by decide)
              simp only [if_true] at this
              simp only [Option.bind_some, this, m_needs hk4 (show (-4 : Int32) = 2 ↔ (9 : Nat) = 2 by decide), bk, h0, if_true]
            · obtain ⟨d, hd⟩ : ∃ d, zg z 5 h = d + 1 := ⟨zg z 5 h - 1, by omega⟩
              rw [hd, nI_pred, m_lying hc.1.2 hw.1 hw.un (by omega) (by omega)]
              simp only [Option.bind_some, m_kindOf (m := m) (l := l) (f := 0) (Or.inl ⟨rfl, rfl⟩) hc.1.1 (fd_le (zg z) (zg z 4 h) d)]
              rw [bk, if_neg h0, hd, Nat.add_sub_cancel]
              by_cases hf : fd (zg z) (zg z 4 h) d = 7
              · rw [if_pos hf, if_pos hf, m_needs hk4 (show (-4 : Int32) = 2 ↔ (9 : Nat) = 2 by decide), Option.bind_some]
              · have := fd_le (zg z) (zg z 4 h) d
                have hk5 := (hw.1.2.2.2.2 (fd (zg z) (zg z 4 h) d) (by omega)).1
                rw [if_neg hf, if_neg hf, m_needs hk4 (by rw [show (2 : Int32) = nI 2 from rfl]; exact nI_inj (by omega) (by decide)), Option.bind_some]
theorem op_fits (x y : Int32) : Op (fX6_fits 0 x y) (fX7_fits 93 x y) := by
  refine Op_q (fun z hz => ?_)
  have hw := hz.1.1
  have hP5 := hw.1.1
  have hN7 := hw.1.2.1
  by_cases q : x < 0 ∨ nI (zg z 0 1) ≤ x
  · refine ⟨-1, C6_p (fun m l hc => ?_), C7_p (fun m l hc => ?_)⟩
    · rw [fX6_fits, grd_t X_o]
      simp only [X_r1, Option.bind_some, c_hasHour0 isG_4 hc.1 hw.1 q, if_true]
    · rw [fX7_fits, grd_t M_o, m_isHour hc.1.1 hw.1]
      simp only [Option.bind_some, if_pos q, if_true]
  · obtain ⟨h, hh, rfl⟩ := inh (by omega) q
    have h7 : h < 7 := by omega
    by_cases q2 : y < 0 ∨ nI (zg z 0 0) ≤ y
    · refine ⟨-1, C6_p (fun m l hc => ?_), C7_p (fun m l hc => ?_)⟩
      · rw [fX6_fits, grd_t X_o]
        simp only [X_r1, Option.bind_some, c_hasHour isG_4 hc.1 hw.1 hh, if_neg n0, c_hasPlot0 isG_4 hc.1 hw.1 q2, if_true]
      · rw [fX7_fits, grd_t M_o, m_isHour hc.1.1 hw.1]
        simp only [Option.bind_some, if_neg q, if_neg n0, m_isPlot hc.1.1 hw.1, if_pos q2, if_true]
    · obtain ⟨p, hp, rfl⟩ := inh (by omega) q2
      refine ⟨if zg z 4 h = p then 0 else if fit (zg z) (zg z 2 h) p then 1 else 0, C6_p (fun m l hc => ?_), C7_p (fun m l hc => ?_)⟩
      · rw [fX6_fits, grd_t X_o]
        simp only [X_r1, Option.bind_some, c_hasHour isG_4 hc.1 hw.1 hh, if_neg n0, c_hasPlot isG_4 hc.1 hw.1 hp, c_hasRoomFor isG_4 hc.1 hw.1 hh hp]
        by_cases e1 : zg z 4 h = p
        · simp only [if_pos e1, if_true]
        · by_cases e2 : fit (zg z) (zg z 2 h) p = true
          · simp only [if_neg e1, if_pos e2, if_neg n0]
          · simp only [if_neg e1, if_neg e2, if_true]
      · rw [fX7_fits, grd_t M_o, m_isHour hc.1.1 hw.1]
        simp only [Option.bind_some, if_neg q, if_neg n0, m_isPlot hc.1.1 hw.1, if_neg q2, M_r4, M_r2, ad7, ad2, a97 (show 7 + h < 21 by omega), a95 (show 2 + h < 56 by omega), (hc.1.1.2.2.1 h h7).1, (hc.1.2.2.2.2 h h7).1, plM_eq (pl_le hw.1 h7) (show p < 9 by omega), m_isFit (Or.inl ⟨rfl, rfl⟩) hc.1.1 hc.1.2 hw (hw.1.2.2.2.2 h h7).1 hp]
        by_cases e1 : zg z 4 h = p
        · simp only [if_pos e1]
        · by_cases e2 : fit (zg z) (zg z 2 h) p = true
          · simp only [if_neg e1, if_pos e2, if_neg n0]
          · simp only [if_neg e1, if_neg e2, if_true]
