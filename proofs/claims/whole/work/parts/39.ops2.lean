section O2
variable {m : Nat → Nat → Int32} {l : Nat → Nat → Int64}
theorem P_o : isO 5 80 (Mk m l) := ⟨show 80 < 107 by decide, by decide⟩
theorem P_gI {k : Nat} : gI 5 80 k (Mk m l) = some (m 80 k) := rfl
theorem P_pI {k : Nat} {x : Int32} : pI 5 80 k x (Mk m l) = some (Mk (m2 m 80 k x) l) := rfl
theorem P_r1 : gR 5 80 1 (Mk m l) = some 81 := gRk ⟨show 80 < 107 by decide, by decide⟩ (by decide) (by decide) (by decide)
theorem P_r2 : gR 5 80 2 (Mk m l) = some 82 := gRk ⟨show 80 < 107 by decide, by decide⟩ (by decide) (by decide) (by decide)
theorem P_r3 : gR 5 80 3 (Mk m l) = some 83 := gRk ⟨show 80 < 107 by decide, by decide⟩ (by decide) (by decide) (by decide)
theorem a81 {j : Nat} (hj : j < 6) : aI 8 81 (nI j) (Mk m l) = some (m 81 j) := shN (by decide) (by decide) (by exact hj)
theorem b81 {j : Nat} (hj : j < 6) {x : Int32} : bI 8 81 (nI j) x (Mk m l) = some (Mk (m2 m 81 j x) l) := shP (by decide) (by decide) (by exact hj)
theorem a82 {j : Nat} (hj : j < 6) : aI 8 82 (nI j) (Mk m l) = some (m 82 j) := shN (by decide) (by decide) (by exact hj)
theorem b82 {j : Nat} (hj : j < 6) {x : Int32} : bI 8 82 (nI j) x (Mk m l) = some (Mk (m2 m 82 j x) l) := shP (by decide) (by decide) (by exact hj)
theorem a83 {j : Nat} (hj : j < 6) : aI 10 83 (nI j) (Mk m l) = some (m 83 j) := A_get (t := 10) (n := 6) (by decide) (by decide) hj (by decide)
theorem b83 {j : Nat} (hj : j < 6) {x : Int32} : bI 10 83 (nI j) x (Mk m l) = some (Mk (m2 m 83 j (vp_nar (tyA 10) x)) l) := A_put (t := 10) (n := 6) (by decide) (by decide) hj (by decide)
theorem a100 {j : Nat} (hj : j < 18) : aI 8 100 (nI j) (Mk m l) = some (m 100 j) := shN (by decide) (by decide) (by exact hj)
theorem b100 {j : Nat} (hj : j < 18) {x : Int32} : bI 8 100 (nI j) x (Mk m l) = some (Mk (m2 m 100 j x) l) := shP (by decide) (by decide) (by exact hj)
theorem nI_mul (a b : Nat) : nI a * nI b = nI (a * b) := (Int32.ofNat_mul a b).symm
theorem mu3 (j : Nat) : (3 : Int32) * nI j = nI (3 * j) := nI_mul 3 j
end O2
theorem op_above (x : Int32) : Op (fX6_above 0 x) (fX7_above 93 x) := by
  refine Op_q (fun z hz => ?_)
  have hw := hz.1.1
  have hN7 := hw.1.2.1
  by_cases q : x < 0 ∨ nI (zg z 0 1) ≤ x
  · refine ⟨-1, C6_p (fun m l hc => ?_), C7_p (fun m l hc => ?_)⟩
    · rw [fX6_above, grd_t X_o]
      simp only [X_r1, Option.bind_some, c_hasHour0 isG_4 hc.1 hw.1 q, if_true]
    · rw [fX7_above, grd_t M_o, m_isHour hc.1.1 hw.1]
      simp only [Option.bind_some, if_pos q, if_true]
  · obtain ⟨h, hh, rfl⟩ := inh (by omega) q
    refine ⟨orN (ab (zg z) h) 7, C6_p (fun m l hc => ?_), C7_p (fun m l hc => ?_)⟩
    · rw [fX6_above, grd_t X_o]
      simp only [X_r1, Option.bind_some, c_hasHour isG_4 hc.1 hw.1 hh, if_neg n0, c_bitsAbove isG_4 hc.1 hw.1 hh]
    · rw [fX7_above, grd_t M_o, m_isHour hc.1.1 hw.1]
      simp only [Option.bind_some, if_neg q, if_neg n0, m_aboveOf hc.1.2 hw.1 (show h < 7 by omega)]
theorem pow7 {N : Nat} (h : N ≤ 7) : 0 < 2 ^ N ∧ 2 ^ N ≤ 128 := ⟨Nat.pow_pos (by decide), Nat.pow_le_pow_right (n := 2) (by decide) h⟩
theorem op_stir (x : Int32) : Op (fX6_stir 0 x) (fX7_stir 93 x) := by
  refine Op_q (fun z hz => ?_)
  have hw := hz.1.1
  have hN7 := hw.1.2.1
  have hp := pow7 hN7
  obtain ⟨d, hd⟩ : ∃ d, 2 ^ zg z 0 1 = d + 1 := ⟨2 ^ zg z 0 1 - 1, by omega⟩
  have hin : ∀ m l, MI z m → fX7_stir 93 x (Mk m l) = (if x < 0 ∨ nI (2 ^ zg z 0 1) ≤ x then some (-1, Mk m l) else if (x &&& (orN (fun h => !(zg z 4 h == 9)) (zg z 0 1) ^^^ (-1))) = 0 then some (nI (ct (bitS (abS (zg z) x (zg z 0 1) &&& (x ^^^ (-1)))) 7), Mk m l) else some (-2, Mk m l)) := by
    intro m l hc
    rw [fX7_stir, grd_t M_o]
    simp only [M_r2, Option.bind_some, a95_1, hc.1.1.2.1, sh1 _ (show zg z 0 1 < 8 by omega), m_in, lt_pred (show 2 ^ zg z 0 1 < 2 ^ 31 by omega), or_false, m_lyingAll hc.1.2 hc.1.1 hw.1, m_stirs hc.1.2 hc.1.1 hw.1]
    by_cases q : x < 0 ∨ nI (2 ^ zg z 0 1) ≤ x
    · simp only [if_pos q, if_true]
    · simp only [if_neg q, if_neg n0]
  by_cases q : x < 0 ∨ nI (2 ^ zg z 0 1) ≤ x
  · refine ⟨-1, C6_p (fun m l hc => ?_), C7_p (fun m l hc => ?_)⟩
    · rw [fX6_stir, grd_t X_o]
      by_cases q1 : x < 0
      · rw [if_pos q1]
      · have q2 := Int32.not_lt.mpr (q.resolve_left q1)
        simp only [if_neg q1, X_r1, Option.bind_some, c_setCount isG_4 hc.1 hw.1, if_neg q2]
    · rw [hin m l hc, if_pos q]
  · have q1 : ¬ x < 0 := fun e => q (Or.inl e)
    have q2 : x < nI (2 ^ zg z 0 1) := Int32.not_le.mp (fun e => q (Or.inr e))
    obtain ⟨k, hk, rfl⟩ := inh (by omega) q
    have hs := set_lies (g := zg z) hN7 hk
    by_cases q3 : alS (zg z) (nI k) (zg z 0 1) = true
    · refine ⟨nI (ct (bitS (abS (zg z) (nI k) (zg z 0 1) &&& (nI k ^^^ (-1)))) 7), C6_p (fun m l hc => ?_), C7_p (fun m l hc => ?_)⟩
      · rw [fX6_stir, grd_t X_o]
        simp only [if_neg q1, X_r1, Option.bind_some, c_setCount isG_4 hc.1 hw.1, if_pos q2, c_allLie isG_4 hc.1 hw.1, if_pos q3, if_neg n0, c_stirOf isG_4 hc.1 hw.1, bC_B7 (B7_and B7_abS)]
      · rw [hin m l hc, if_neg q, if_pos (hs.mpr q3)]
    · refine ⟨-2, C6_p (fun m l hc => ?_), C7_p (fun m l hc => ?_)⟩
      · rw [fX6_stir, grd_t X_o]
        simp only [if_neg q1, X_r1, Option.bind_some, c_setCount isG_4 hc.1 hw.1, if_pos q2, c_allLie isG_4 hc.1 hw.1, if_neg q3, if_true]
      · rw [hin m l hc, if_neg q, if_neg (fun e => q3 (hs.mp e))]
theorem op_count (x : Int32) : Op (fX6_count 0 x) (fX7_count 93 x) := by
  refine Op_q (fun z hz => ?_)
  have hw := hz.1.1
  have hN7 := hw.1.2.1
  by_cases x0 : x = 0
  · refine ⟨nI (zg z 0 0), C6_p (fun m l hc => ?_), C7_p (fun m l hc => ?_)⟩
    · rw [fX6_count, grd_t X_o]
      simp only [if_pos x0, X_r1, Option.bind_some, G_gI isG_4, hc.1.1 0 (by decide)]
    · rw [fX7_count, grd_t M_o]
      simp only [if_pos x0, M_r2, Option.bind_some, a95_0, hc.1.1.1]
  by_cases x1 : x = 1
  · refine ⟨nI (zg z 0 1), C6_p (fun m l hc => ?_), C7_p (fun m l hc => ?_)⟩
    · rw [fX6_count, grd_t X_o]
      simp only [if_neg x0, if_pos x1, X_r1, Option.bind_some, G_gI isG_4, hc.1.1 1 (by decide)]
    · rw [fX7_count, grd_t M_o]
      simp only [if_neg x0, if_pos x1, M_r2, Option.bind_some, a95_1, hc.1.1.2.1]
  by_cases x2 : x = 2
  · refine ⟨nI (zg z 0 2), C6_p (fun m l hc => ?_), C7_p (fun m l hc => ?_)⟩
    · rw [fX6_count, grd_t X_o]
      simp only [if_neg x0, if_neg x1, if_pos x2, X_r1, Option.bind_some, G_gI isG_4, hc.1.1 2 (by decide)]
    · rw [fX7_count, grd_t M_o]
      simp only [if_neg x0, if_neg x1, if_pos x2, M_r4, Option.bind_some, a97_0, hc.1.2.1]
  by_cases x3 : x = 3
  · refine ⟨nI (ct (fun h => !(zg z 4 h == 9)) (zg z 0 1)), C6_p (fun m l hc => ?_), C7_p (fun m l hc => ?_)⟩
    · rw [fX6_count, grd_t X_o]
      simp only [if_neg x0, if_neg x1, if_neg x2, if_pos x3, X_r1, Option.bind_some, c_lyingCount isG_4 hc.1 hw.1]
    · rw [fX7_count, grd_t M_o]
      simp only [if_neg x0, if_neg x1, if_neg x2, if_pos x3, Option.bind_some, m_lyingAll hc.1.2 hc.1.1 hw.1, m_ones, ones_orN hN7]
  by_cases x4 : x = 4
  · refine ⟨nI (sm (fun h => if zg z 4 h = 9 then 0 else zg z 3 h) (zg z 0 1)), C6_p (fun m l hc => ?_), C7_p (fun m l hc => ?_)⟩
    · rw [fX6_count, grd_t X_o]
      simp only [if_neg x0, if_neg x1, if_neg x2, if_neg x3, if_pos x4, X_r1, Option.bind_some, c_lyingWorth isG_4 hc.1 hw.1]
    · rw [fX7_count, grd_t M_o]
      simp only [if_neg x0, if_neg x1, if_neg x2, if_neg x3, if_pos x4, Option.bind_some, m_lyingAll hc.1.2 hc.1.1 hw.1, m_worthOf hc.1.1 hw.1, wS_lies hN7]
  by_cases x5 : x = 5
  · refine ⟨if fro (zg z) then 1 else 0, C6_p (fun m l hc => ?_), C7_p (fun m l hc => ?_)⟩
    · rw [fX6_count, grd_t X_o]
      simp only [if_neg x0, if_neg x1, if_neg x2, if_neg x3, if_neg x4, if_pos x5, X_r1, Option.bind_some, c_isFrost isG_4 hc.1 hw.1]
      by_cases q : fro (zg z) = true
      · simp only [if_pos q, if_neg n0]
      · simp only [if_neg q, if_true]
    · rw [fX7_count, grd_t M_o]
      simp only [if_neg x0, if_neg x1, if_neg x2, if_neg x3, if_neg x4, if_pos x5, Option.bind_some, m_isFrost hc.1.2 hc.1.1 hw.1]
      by_cases q : fro (zg z) = true
      · simp only [if_pos q, if_neg n0]
      · simp only [if_neg q, if_true]
  by_cases x6 : x = 6
  · refine ⟨nI (zg z 0 3), C6_p (fun m l hc => ?_), C7_p (fun m l hc => ?_)⟩
    · rw [fX6_count, grd_t X_o]
      simp only [if_neg x0, if_neg x1, if_neg x2, if_neg x3, if_neg x4, if_neg x5, if_pos x6, X_r1, Option.bind_some, G_gI isG_4, hc.1.1 3 (by decide)]
    · rw [fX7_count, grd_t M_o]
      simp only [if_neg x0, if_neg x1, if_neg x2, if_neg x3, if_neg x4, if_neg x5, if_pos x6, M_r4, Option.bind_some, a97_1, hc.1.2.2.1]
  by_cases x7 : x = 7
  · refine ⟨nI (zsn z), C6_p (fun m l hc => ?_), C7_p (fun m l hc => ?_)⟩
    · rw [fX6_count, grd_t X_o]
      simp only [if_neg x0, if_neg x1, if_neg x2, if_neg x3, if_neg x4, if_neg x5, if_neg x6, if_pos x7, X_r5, Option.bind_some, P_gI, hc.2.2.2.2.1]
    · rw [fX7_count, grd_t M_o]
      simp only [if_neg x0, if_neg x1, if_neg x2, if_neg x3, if_neg x4, if_neg x5, if_neg x6, if_pos x7, M_gI, Option.bind_some, hc.2.2.2.2.1]
  by_cases x8 : x = 8
  · refine ⟨nI (zpn z), C6_p (fun m l hc => ?_), C7_p (fun m l hc => ?_)⟩
    · rw [fX6_count, grd_t X_o]
      simp only [if_neg x0, if_neg x1, if_neg x2, if_neg x3, if_neg x4, if_neg x5, if_neg x6, if_neg x7, if_pos x8, X_r3, Option.bind_some, S_gI isS_p, hc.2.1.2.1]
    · rw [fX7_count, grd_t M_o]
      simp only [if_neg x0, if_neg x1, if_neg x2, if_neg x3, if_neg x4, if_neg x5, if_neg x6, if_neg x7, if_pos x8, M_gI, Option.bind_some, hc.2.1.1]
  by_cases x9 : x = 9
  · refine ⟨nI (zkn z), C6_p (fun m l hc => ?_), C7_p (fun m l hc => ?_)⟩
    · rw [fX6_count, grd_t X_o]
      simp only [if_neg x0, if_neg x1, if_neg x2, if_neg x3, if_neg x4, if_neg x5, if_neg x6, if_neg x7, if_neg x8, if_pos x9, X_r4, Option.bind_some, S_gI isS_k, hc.2.2.1.2.1]
    · rw [fX7_count, grd_t M_o]
      simp only [if_neg x0, if_neg x1, if_neg x2, if_neg x3, if_neg x4, if_neg x5, if_neg x6, if_neg x7, if_neg x8, if_pos x9, M_gI, Option.bind_some, hc.2.2.1.1]
  by_cases xa : x = 10
  · refine ⟨nI (ztn z), C6_p (fun m l hc => ?_), C7_p (fun m l hc => ?_)⟩
    · rw [fX6_count, grd_t X_o]
      simp only [if_neg x0, if_neg x1, if_neg x2, if_neg x3, if_neg x4, if_neg x5, if_neg x6, if_neg x7, if_neg x8, if_neg x9, if_pos xa, X_r0, Option.bind_some, T_gI, hc.2.2.2.1.1]
    · rw [fX7_count, grd_t M_o]
      simp only [if_neg x0, if_neg x1, if_neg x2, if_neg x3, if_neg x4, if_neg x5, if_neg x6, if_neg x7, if_neg x8, if_neg x9, if_pos xa, M_gI, Option.bind_some, hc.2.2.2.1.1]
  · refine ⟨-1, C6_p (fun m l hc => ?_), C7_p (fun m l hc => ?_)⟩
    · rw [fX6_count, grd_t X_o]
      simp only [if_neg x0, if_neg x1, if_neg x2, if_neg x3, if_neg x4, if_neg x5, if_neg x6, if_neg x7, if_neg x8, if_neg x9, if_neg xa]
    · rw [fX7_count, grd_t M_o]
      simp only [if_neg x0, if_neg x1, if_neg x2, if_neg x3, if_neg x4, if_neg x5, if_neg x6, if_neg x7, if_neg x8, if_neg x9, if_neg xa]
theorem CI_sight {m m' : Nat → Nat → Int32} {l : Nat → Nat → Int64} {z : Zt} {n : Nat} {f : Nat → Nat → Nat} (h : CI z m l) (hf : ∀ c, c < 80 ∨ 83 < c → m' c = m c) (ht : CSi m' n f) : CI (z.1, z.2.1, z.2.2.1, z.2.2.2.1, (n, f)) m' l := by
  obtain ⟨h1, h2, h3, h4, h5⟩ := h
  exact ⟨CG_eq h1 (fun c q1 q2 => hf c (by omega)) rfl, Sh_eq isS_p h2 (fun c q1 q2 => hf c (by omega)) (fun c q1 q2 => rfl), Sh_eq isS_k h3 (fun c q1 q2 => hf c (by omega)) (fun c q1 q2 => rfl), CTx_eq h4 (hf 1 (by omega)) (hf 2 (by omega)), ht⟩
theorem MI_sight {m m' : Nat → Nat → Int32} {z : Zt} {n : Nat} {f : Nat → Nat → Nat} (h : MI z m) (hf : ∀ c, c ≠ 93 → c ≠ 100 → m' c = m c) (hf2 : ∀ k, k ≠ 10 → m' 93 k = m 93 k) (ht : MSi m' n f) : MI (z.1, z.2.1, z.2.2.1, z.2.2.2.1, (n, f)) m' := by
  obtain ⟨h1, h2, h3, h4, h5⟩ := h
  refine ⟨⟨?_, ?_⟩, MRw_eq h2 (hf2 6 (by decide)) (hf 98 (by decide) (by decide)), MRw_eq h3 (hf2 8 (by decide)) (hf 99 (by decide) (by decide)), ?_, ht⟩
  · unfold MT
    rw [hf 95 (by decide) (by decide)]
    exact h1.1
  · rw [MS_MR, hf 97 (by decide) (by decide)]
    exact h1.2
  · unfold MTx
    rw [hf2 1 (by decide), hf 94 (by decide) (by decide)]
    exact h4
theorem op_forget : Op (fX6_forget 0) (fX7_forget 93) := by
  intro z hz
  refine ⟨nI (zsn z), (z.1, z.2.1, z.2.2.1, z.2.2.2.1, (0, zsf z)), fun m l hc => ?_, fun m l hc => ?_, ?_⟩
  · refine ⟨m2 m 80 0 0, l, ?_, CI_sight hc (fun c h1 => m2_ne (by omega)) ⟨m2_at, fun i hi => absurd hi (by omega)⟩, fun c hc => m2_ne (by omega)⟩
    rw [fX6_forget, grd_t X_o]
    simp only [X_r5, Option.bind_some, fX5_empty, grd_t P_o, P_gI, P_pI, hc.2.2.2.2.1]
  · refine ⟨m2 m 93 10 0, ?_, MI_sight hc (fun c h1 h2 => m2_ne h1) (fun k hk => m2_nk hk) ⟨m2_at, fun i hi => absurd hi (by omega)⟩, fun c hc => m2_ne (by omega)⟩
    rw [fX7_forget, grd_t M_o]
    simp only [M_gI, Option.bind_some, M_pI, hc.2.2.2.2.1]
  · exact ⟨hz.1, hz.2.1, hz.2.2.1, hz.2.2.2.1, ⟨Nat.zero_le _, fun i hi => absurd hi (Nat.not_lt_zero i)⟩⟩
theorem op_seen (x y w : Int32) : Op (fX6_seen 0 x y w) (fX7_seen 93 x y w) := by
  intro z hz
  have hw := hz.1.1
  have hN7 := hw.1.2.1
  by_cases q : x < 0 ∨ 20 < x
  · refine ⟨-1, z, C6_p (fun m l hc => ?_), C7_p (fun m l hc => ?_), hz⟩
    · rw [fX6_seen, grd_t X_o, c_within]
      simp only [Option.bind_some, if_pos q, if_true]
    · rw [fX7_seen, grd_t M_o, m_in]
      simp only [Option.bind_some, if_pos q, if_true]
  obtain ⟨a, _, ha, rfl⟩ := inr (a := 0) (b := 20) (by decide) (by decide) q
  by_cases q2 : y < 0 ∨ nI (zg z 0 1) ≤ y
  · refine ⟨-1, z, C6_p (fun m l hc => ?_), C7_p (fun m l hc => ?_), hz⟩
    · rw [fX6_seen, grd_t X_o, c_within]
      simp only [Option.bind_some, if_neg q, if_neg n0, X_r1, c_hasHour0 isG_4 hc.1 hw.1 q2, if_true]
    · rw [fX7_seen, grd_t M_o, m_in]
      simp only [Option.bind_some, if_neg q, if_neg n0, m_isHour hc.1.1 hw.1, if_pos q2, if_true]
  obtain ⟨h, hh, rfl⟩ := inh (by omega) q2
  by_cases q3 : w < 0 ∨ 1 < w
  · refine ⟨-1, z, C6_p (fun m l hc => ?_), C7_p (fun m l hc => ?_), hz⟩
    · rw [fX6_seen, grd_t X_o, c_within]
      simp only [Option.bind_some, if_neg q, if_neg n0, X_r1, c_hasHour isG_4 hc.1 hw.1 hh, c_within, if_pos q3, if_true]
    · rw [fX7_seen, grd_t M_o, m_in]
      simp only [Option.bind_some, if_neg q, if_neg n0, m_isHour hc.1.1 hw.1, if_neg q2, m_in, if_pos q3, if_true]
  obtain ⟨b, _, hb, rfl⟩ := inr (a := 0) (b := 1) (by decide) (by decide) q3
  have hs6 := hz.2.2.2.2.1
  have hcl : ∀ m l, CI z m l → fX6_seen 0 (nI a) (nI h) (nI b) (Mk m l) = fX6_seen_48 0 80 (nI a) (nI h) (nI b) (Mk m l) := by
    intro m l hc
    rw [fX6_seen, grd_t X_o, c_within]
    simp only [Option.bind_some, if_neg q, if_neg n0, X_r1, c_hasHour isG_4 hc.1 hw.1 hh, c_within, if_neg q3, X_r5]
    have : b = 0 ∨ b = 1 := by omega
    rcases this with rfl | rfl
    · rfl
    · rfl
  have hml : ∀ m l, MI z m → fX7_seen 93 (nI a) (nI h) (nI b) (Mk m l) = (if nI (zsn z) = 6 then some ((-3), Mk m l) else some (nI (zsn z + 1), Mk (m2 (m2 (m2 (m2 m 100 (3 * zsn z) (nI a)) 100 (3 * zsn z + 1) (nI h)) 100 (3 * zsn z + 2) (nI b)) 93 10 (nI (zsn z + 1))) l)) := by
    intro m l hc
    rw [fX7_seen, grd_t M_o, m_in]
    simp only [Option.bind_some, if_neg q, if_neg n0, m_isHour hc.1.1 hw.1, if_neg q2, m_in, if_neg q3, M_gI, hc.2.2.2.2.1]
    by_cases q6 : zsn z = 6
    · rw [q6]
      rfl
    · have hne : ¬ nI (zsn z) = 6 := by
        rw [show (6 : Int32) = nI 6 from rfl, nI_inj (by omega) (by decide)]
        exact q6
      have e1 : nI (3 * zsn z) + 1 = nI (3 * zsn z + 1) := nI_1 _
      have e2 : nI (3 * zsn z) + 2 = nI (3 * zsn z + 2) := nI_add _ 2
      simp only [if_neg hne, M_r9, M_gI, Option.bind_some, mu3, b100 (show 3 * zsn z < 18 by omega), m2_ne (show 93 ≠ 100 by decide), hc.2.2.2.2.1, e1, e2, b100 (show 3 * zsn z + 1 < 18 by omega), b100 (show 3 * zsn z + 2 < 18 by omega), nI_1, M_pI, m2_at]
  by_cases q6 : zsn z = 6
  · refine ⟨-3, z, C6_p (fun m l hc => ?_), C7_p (fun m l hc => ?_), hz⟩
    · rw [hcl m l hc, fX6_seen_48, fX5_add, grd_t P_o]
      simp only [P_gI, Option.bind_some, hc.2.2.2.2.1, q6]
      rfl
    · rw [hml m l hc, q6]
      rfl
  · have hlt : zsn z < 6 := by omega
    refine ⟨nI (zsn z + 1), (z.1, z.2.1, z.2.2.1, z.2.2.2.1, (zsn z + 1, fun i => if i = zsn z then (fun k => if k = 0 then a else if k = 1 then h else b) else zsf z i)), fun m l hc => ?_, fun m l hc => ?_, ?_⟩
    · refine ⟨m2 (m2 (m2 (m2 m 81 (zsn z) (nI a)) 82 (zsn z) (nI h)) 83 (zsn z) (nI b)) 80 0 (nI (zsn z + 1)), l, ?_, CI_sight hc (fun c h1 => ?_) ⟨m2_at, fun i hi => ?_⟩, fun c hc => ?_⟩
      · rw [hcl m l hc, fX6_seen_48, fX5_add, grd_t P_o]
        have hbb : vp_nar (tyA 10) (nI b) = nI b := by
          have : ∀ b, b < 2 → vp_nar (tyA 10) (nI b) = nI b := by decide
          exact this b (by omega)
        simp only [P_gI, Option.bind_some, hc.2.2.2.2.1, if_pos (show nI (zsn z) < 6 from nI_lt (b := 6) hlt (by decide)), P_r1, P_r2, P_r3, b81 hlt, b82 hlt, b83 hlt, m2_ne (show 80 ≠ 81 by decide), m2_ne (show 80 ≠ 82 by decide), m2_ne (show 80 ≠ 83 by decide), hbb, nI_1, P_pI, if_neg n0, X_r5, m2_at]
      · rw [m2_ne (by omega), m2_ne (by omega), m2_ne (by omega), m2_ne (by omega)]
      · rw [m2_ne (show 81 ≠ 80 by decide), m2_ne (show 81 ≠ 83 by decide), m2_ne (show 81 ≠ 82 by decide), m2_ne (show 82 ≠ 80 by decide), m2_ne (show 82 ≠ 83 by decide), m2_ne (show 83 ≠ 80 by decide)]
        by_cases e : i = zsn z
        · subst e
          rw [m2_at, m2_at, m2_at]
          simp
        · rw [m2_nk e, m2_nk e, m2_nk e, m2_ne (show 82 ≠ 81 by decide), m2_ne (show 83 ≠ 82 by decide), m2_ne (show 83 ≠ 81 by decide)]
          simp only [if_neg e]
          exact hc.2.2.2.2.2 i (by omega)
      · rw [m2_ne (by omega), m2_ne (by omega), m2_ne (by omega), m2_ne (by omega)]
    · have hne : ¬ nI (zsn z) = 6 := by
        rw [show (6 : Int32) = nI 6 from rfl, nI_inj (by omega) (by decide)]
        exact q6
      refine ⟨m2 (m2 (m2 (m2 m 100 (3 * zsn z) (nI a)) 100 (3 * zsn z + 1) (nI h)) 100 (3 * zsn z + 2) (nI b)) 93 10 (nI (zsn z + 1)), ?_, MI_sight hc (fun c h1 h2 => ?_) (fun k hk => ?_) ⟨m2_at, fun i hi => ?_⟩, fun c hc => ?_⟩
      · rw [hml m l hc, if_neg hne]
      · rw [m2_ne (by omega), m2_ne (by omega), m2_ne (by omega), m2_ne (by omega)]
      · rw [m2_nk hk, m2_ne (by omega), m2_ne (by omega), m2_ne (by omega)]
      · rw [m2_ne (show 100 ≠ 93 by decide)]
        by_cases e : i = zsn z
        · subst e
          rw [m2_at, m2_nk (show 3 * zsn z ≠ 3 * zsn z + 2 by omega), m2_nk (show 3 * zsn z ≠ 3 * zsn z + 1 by omega), m2_at, m2_nk (show 3 * zsn z + 1 ≠ 3 * zsn z + 2 by omega), m2_at]
          simp
        · rw [m2_nk (show 3 * i ≠ 3 * zsn z + 2 by omega), m2_nk (show 3 * i ≠ 3 * zsn z + 1 by omega), m2_nk (show 3 * i ≠ 3 * zsn z by omega), m2_nk (show 3 * i + 1 ≠ 3 * zsn z + 2 by omega), m2_nk (show 3 * i + 1 ≠ 3 * zsn z + 1 by omega), m2_nk (show 3 * i + 1 ≠ 3 * zsn z by omega), m2_nk (show 3 * i + 2 ≠ 3 * zsn z + 2 by omega), m2_nk (show 3 * i + 2 ≠ 3 * zsn z + 1 by omega), m2_nk (show 3 * i + 2 ≠ 3 * zsn z by omega)]
          simp only [if_neg e]
          exact hc.2.2.2.2.2 i (by omega)
      · rw [m2_ne (by omega), m2_ne (by omega), m2_ne (by omega), m2_ne (by omega)]
    · refine ⟨hz.1, hz.2.1, hz.2.2.1, hz.2.2.2.1, ⟨by show zsn z + 1 ≤ 6; omega, fun i hi => ?_⟩⟩
      have hi : i < zsn z + 1 := hi
      show (if i = zsn z then (fun k => if k = 0 then a else if k = 1 then h else b) else zsf z i) 0 ≤ 20 ∧ (if i = zsn z then (fun k => if k = 0 then a else if k = 1 then h else b) else zsf z i) 1 < zg z 0 1 ∧ (if i = zsn z then (fun k => if k = 0 then a else if k = 1 then h else b) else zsf z i) 2 ≤ 1
      by_cases e : i = zsn z
      · simp only [if_pos e]
        exact ⟨ha, hh, hb⟩
      · simp only [if_neg e]
        exact hz.2.2.2.2.2 i (by omega)
