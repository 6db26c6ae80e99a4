/-! the least stir for so much worth -/
def stS (g : Gn) (k : Nat) : Nat := ct (bitS (abS g (nI k) (g 0 1) &&& (nI k ^^^ (-1)))) 7
def cst (g : Gn) (k : Nat) : Nat := 8 * stS g k + ct (bitS (nI k)) 7
def okS (g : Gn) (w k : Nat) : Bool := decide (w ≤ wS g (nI k) (g 0 1)) && alS g (nI k) (g 0 1)
def bst (g : Gn) (w : Nat) : Nat → Nat
  | 0 => 0
  | j + 1 => if okS g w j = true ∧ (bst g w j = 0 ∨ cst g j < cst g (bst g w j)) then j else bst g w j
theorem bst_no {g : Gn} {w j : Nat} (h : ¬ (okS g w j = true ∧ (bst g w j = 0 ∨ cst g j < cst g (bst g w j)))) : bst g w (j + 1) = bst g w j := by rw [bst, if_neg h]
theorem bst_yes {g : Gn} {w j : Nat} (h : okS g w j = true ∧ (bst g w j = 0 ∨ cst g j < cst g (bst g w j))) : bst g w (j + 1) = j := by rw [bst, if_pos h]
theorem okS_no {g : Gn} {w j : Nat} (h : wS g (nI j) (g 0 1) < w) : ¬ okS g w j = true := by
  simp only [okS, Bool.and_eq_true, decide_eq_true_eq]
  omega
theorem bst_lt (g : Gn) (w : Nat) : ∀ j, bst g w j ≤ j
  | 0 => Nat.le_refl _
  | j + 1 => by
    have := bst_lt g w j
    rw [bst]
    split <;> omega
theorem cst_le (g : Gn) (k : Nat) : cst g k ≤ 63 ∧ cst g k / 8 = stS g k := by
  have h1 := ct_le (bitS (abS g (nI k) (g 0 1) &&& (nI k ^^^ (-1)))) 7
  have h2 := ct_le (bitS (nI k)) 7
  unfold cst stS
  omega
theorem wS_le {g : Gn} (hw : Wb g) (x : Int32) : ∀ {n : Nat}, n ≤ 7 → wS g x n ≤ 20 * n
  | 0, _ => Nat.le_refl _
  | n + 1, h => by
    have ih := wS_le hw x (n := n) (by omega)
    have hb := (hw.2.2.2.2 n (by omega)).2.1
    unfold wS at ih ⊢
    rw [sm]
    split <;> omega
theorem c_cheapest {a : Nat} {m : Nat → Nat → Int32} {l : Nat → Nat → Int64} {g : Gn} (ha : isG a) (hc : CG a m l g) (hw : Wb g) {w : Nat} (hw1 : w ≤ 140) (hwp : 0 < w) : fX0_cheapestSet a (nI w) (Mk m l) = some (nI (bst g w (2 ^ g 0 1)), Mk m l) := by
  have hN7 := hw.2.1
  have hp := pow7 hN7
  have hb0 : bst g w 1 = 0 := by
    rw [bst, bst]
    split <;> rfl
  rw [fX0_cheapestSet, grd_t (G_o ha)]
  refine lpR (fun n j (s : Int32 × Int32) => fX0_cheapestSet_7 n a (nI w) s.1 s.2 (nI j) (Mk m l)) (fun j s => 0 < j ∧ s.1 = nI (bst g w j) ∧ s.2 = if bst g w j = 0 then 0 else nI (cst g (bst g w j))) (fun o => o = some (nI (bst g w (2 ^ g 0 1)), Mk m l)) (2 ^ g 0 1) ?_ ?_ FU 1 (0, 0) (by omega) (by have := FU_big; omega) ⟨by decide, by rw [hb0]; rfl, by rw [hb0]; rfl⟩
  · intro n j s hj hI
    left
    obtain ⟨hj0, h1, h2⟩ := hI
    have hj128 : j < 128 := by omega
    have hws := wS_le hw (nI j) hN7
    have hbj := bst_lt g w j
    have hc1 := (cst_le g j).1
    have hc2 := (cst_le g (bst g w j)).1
    have estir : fX0_stirOf a (nI j) (Mk m l) = some (nI (stS g j), Mk m l) := by
      rw [c_stirOf ha hc hw, bC_B7 (B7_and B7_abS)]
      rfl
    have ebc : fJ6_bitCount_0f7a4 (nI j) (Mk m l) = some (nI (ct (bitS (nI j)) 7), Mk m l) := by
      rw [c_bitCount, bC_B7 (nI_B7 hj128)]
    have ecst : nI (stS g j) * 8 + nI (ct (bitS (nI j)) 7) = nI (cst g j) := by
      rw [show (8 : Int32) = nI 8 from rfl, nI_mul, nI_add]
      unfold cst
      rw [Nat.mul_comm]
    rw [fX0_cheapestSet_7, c_setCount ha hc hw, bS, if_neg (nI_ge hj (by omega)), c_worthOfSet ha hc hw, bS]
    by_cases q1 : wS g (nI j) (g 0 1) < w
    · refine ⟨s, ⟨by omega, ?_, ?_⟩, ?_⟩
      · rw [bst_no (fun e => okS_no q1 e.1)]
        exact h1
      · rw [bst_no (fun e => okS_no q1 e.1)]
        exact h2
      · rw [if_pos (nI_lt q1 (by omega)), nI_1]
    · rw [if_neg (Int32.not_lt.mpr (nI_le (by omega) (by omega))), c_allLie ha hc hw, bS]
      by_cases q2 : alS g (nI j) (g 0 1) = true
      · have hok : okS g w j = true := by
          simp only [okS, q2, Bool.and_true, decide_eq_true_eq]
          omega
        simp only [if_pos q2, if_neg n0, estir, ebc, bS, ecst]
        by_cases q3 : bst g w j = 0 ∨ cst g j < cst g (bst g w j)
        · refine ⟨(nI j, nI (cst g j)), ⟨by omega, ?_, ?_⟩, ?_⟩
          · rw [bst_yes ⟨hok, q3⟩]
          · rw [bst_yes ⟨hok, q3⟩, if_neg (by omega)]
          · by_cases q4 : bst g w j = 0
            · have hz : s.1 = 0 := by rw [h1, q4]; rfl
              rw [if_pos hz, nI_1]
            · have hz : ¬ s.1 = 0 := by
                rw [h1, show (0 : Int32) = nI 0 from rfl, nI_inj (by omega) (by decide)]
                exact q4
              have hl : ¬ s.2 ≤ nI (cst g j) := by
                rw [h2, if_neg q4]
                exact nI_ge (q3.resolve_left q4) (by omega)
              rw [if_neg hz, if_neg hl, nI_1]
        · refine ⟨s, ⟨by omega, ?_, ?_⟩, ?_⟩
          · rw [bst_no (fun e => q3 e.2)]
            exact h1
          · rw [bst_no (fun e => q3 e.2)]
            exact h2
          · have q4 : ¬ bst g w j = 0 := fun e => q3 (Or.inl e)
            have q5 : ¬ cst g j < cst g (bst g w j) := fun e => q3 (Or.inr e)
            have hz : ¬ s.1 = 0 := by
              rw [h1, show (0 : Int32) = nI 0 from rfl, nI_inj (by omega) (by decide)]
              exact q4
            have hl : s.2 ≤ nI (cst g j) := by
              rw [h2, if_neg q4]
              exact nI_le (by omega) (by omega)
            rw [if_neg hz, if_pos hl, nI_1]
      · have hok : ¬ okS g w j = true := by simp [okS, q2]
        refine ⟨s, ⟨by omega, ?_, ?_⟩, ?_⟩
        · rw [bst_no (fun e => hok e.1)]
          exact h1
        · rw [bst_no (fun e => hok e.1)]
          exact h2
        · rw [if_neg q2, if_pos rfl, nI_1]
  · intro n s hI
    rw [fX0_cheapestSet_7, c_setCount ha hc hw, bS, if_pos (nI_le (Nat.le_refl _) (by omega)), hI.2.1]
theorem m_cheap {m : Nat → Nat → Int32} {l : Nat → Nat → Int64} {g : Gn} (hs : MS m g) (ht : MT 95 m g) (hw : Wb g) {w v : Nat} (hw1 : w ≤ 140) (hwp : 0 < w) (hv : v ≤ 1) : fX7_cheap_32 FU 93 (nI w) (nI v) (-4) 99 1 (Mk m l) = some (if bst g w (2 ^ g 0 1) = 0 then -4 else if v = 0 then nI (bst g w (2 ^ g 0 1)) else nI (stS g (bst g w (2 ^ g 0 1))), Mk m l) := by
  have hN7 := hw.2.1
  have hp := pow7 hN7
  have hb0 : bst g w 1 = 0 := by
    rw [bst, bst]
    split <;> rfl
  refine lpR (fun n j (s : Int32 × Int32) => fX7_cheap_32 n 93 (nI w) (nI v) s.1 s.2 (nI j) (Mk m l)) (fun j s => 0 < j ∧ s = if bst g w j = 0 then (-4, 99) else (nI (bst g w j), nI (cst g (bst g w j)))) (fun o => o = some (if bst g w (2 ^ g 0 1) = 0 then -4 else if v = 0 then nI (bst g w (2 ^ g 0 1)) else nI (stS g (bst g w (2 ^ g 0 1))), Mk m l)) (2 ^ g 0 1) ?_ ?_ FU 1 (-4, 99) (by omega) (by have := FU_big; omega) ⟨by decide, by rw [hb0]; rfl⟩
  · intro n j s hj hI
    left
    obtain ⟨hj0, h1⟩ := hI
    have hj128 : j < 128 := by omega
    have hws := wS_le hw (nI j) hN7
    have hc1 := (cst_le g j).1
    have hc2 := (cst_le g (bst g w j)).1
    have hset := set_lies (g := g) hN7 hj
    have ecst : 8 * nI (stS g j) + nI (ct (bitS (nI j)) 7) = nI (cst g j) := by
      rw [show (8 : Int32) = nI 8 from rfl, nI_mul, nI_add]
      rfl
    have estir : fX7_stirs 93 (nI j) (Mk m l) = some (nI (stS g j), Mk m l) := m_stirs hs ht hw _
    rw [fX7_cheap_32]
    simp only [M_r2, bS, a95_1, ht.2.1, sh1 _ (show g 0 1 < 8 by omega), if_neg (nI_ge hj (show 2 ^ g 0 1 < 2 ^ 31 by omega)), m_lyingAll hs ht hw, hset, m_worthOf ht hw, estir, m_ones, ecst, fX7_cheap_97, nI_1]
    by_cases q2 : alS g (nI j) (g 0 1) = true
    · rw [if_pos q2]
      by_cases q1 : wS g (nI j) (g 0 1) < w
      · refine ⟨s, ⟨by omega, ?_⟩, ?_⟩
        · rw [bst_no (fun e => okS_no q1 e.1)]
          exact h1
        · rw [if_pos (nI_lt q1 (by omega))]
      · have hok : okS g w j = true := by
          simp only [okS, q2, Bool.and_true, decide_eq_true_eq]
          omega
        rw [if_neg (Int32.not_lt.mpr (nI_le (by omega) (by omega)))]
        by_cases q3 : bst g w j = 0 ∨ cst g j < cst g (bst g w j)
        · have hlt : ¬ s.2 ≤ nI (cst g j) := by
            rw [h1]
            by_cases q4 : bst g w j = 0
            · rw [if_pos q4, show (99 : Int32) = nI 99 from rfl]
              exact nI_ge (by omega) (by omega)
            · rw [if_neg q4]
              exact nI_ge (q3.resolve_left q4) (by omega)
          refine ⟨(nI j, nI (cst g j)), ⟨by omega, ?_⟩, ?_⟩
          · rw [bst_yes ⟨hok, q3⟩, if_neg (by omega)]
          · rw [if_neg hlt, if_neg hlt]
        · have q4 : ¬ bst g w j = 0 := fun e => q3 (Or.inl e)
          have q5 : ¬ cst g j < cst g (bst g w j) := fun e => q3 (Or.inr e)
          have hle : s.2 ≤ nI (cst g j) := by
            rw [h1, if_neg q4]
            exact nI_le (by omega) (by omega)
          refine ⟨s, ⟨by omega, ?_⟩, ?_⟩
          · rw [bst_no (fun e => q3 e.2)]
            exact h1
          · rw [if_pos hle, if_pos hle]
    · have hok : ¬ okS g w j = true := by simp [okS, q2]
      refine ⟨s, ⟨by omega, ?_⟩, ?_⟩
      · rw [bst_no (fun e => hok e.1)]
        exact h1
      · rw [if_neg q2]
  · intro n s hI
    obtain ⟨_, h1⟩ := hI
    have hbl := bst_lt g w (2 ^ g 0 1)
    rw [fX7_cheap_32]
    simp only [M_r2, bS, a95_1, ht.2.1, sh1 _ (show g 0 1 < 8 by omega), if_pos (nI_le (Nat.le_refl (2 ^ g 0 1)) (show 2 ^ g 0 1 < 2 ^ 31 by omega))]
    by_cases q : bst g w (2 ^ g 0 1) = 0
    · rw [if_pos q] at h1
      rw [if_pos q, h1]
      rfl
    · rw [if_neg q] at h1
      have hne : ¬ nI (bst g w (2 ^ g 0 1)) = -4 := fun e => n4_ne (by omega) e.symm
      rw [if_neg q, h1]
      simp only [if_neg hne]
      have hcc := cst_le g (bst g w (2 ^ g 0 1))
      have : v = 0 ∨ v = 1 := by omega
      rcases this with rfl | rfl
      · rw [if_pos (show nI 0 = 0 from rfl), if_pos rfl]
      · rw [if_neg (show ¬ nI 1 = 0 by decide), if_neg (show ¬ (1 : Nat) = 0 by decide), show (8 : Int32) = nI 8 from rfl, dvd_nI (by omega) (by decide) (by decide), Option.bind_some, hcc.2]
theorem op_cheap (x y : Int32) : Op (fX6_cheap 0 x y) (fX7_cheap 93 x y) := by
  refine Op_q (fun z hz => ?_)
  have hw := hz.1.1
  have hN7 := hw.1.2.1
  have hp := pow7 hN7
  by_cases q1 : x < 1 ∨ 140 < x
  · refine ⟨-1, C6_p (fun m l hc => ?_), C7_p (fun m l hc => ?_)⟩
    · rw [fX6_cheap, grd_t X_o, c_within, Option.bind_some, if_pos q1, if_pos rfl]
    · rw [fX7_cheap, grd_t M_o, m_in, Option.bind_some, if_pos q1, if_pos rfl]
  obtain ⟨w, hw1, hw2, rfl⟩ := inr (a := 1) (b := 140) (by decide) (by decide) q1
  by_cases q2 : y < 0 ∨ 1 < y
  · refine ⟨-1, C6_p (fun m l hc => ?_), C7_p (fun m l hc => ?_)⟩
    · rw [fX6_cheap, grd_t X_o, c_within, Option.bind_some, if_neg q1, if_neg n0, c_within, Option.bind_some, if_pos q2, if_pos rfl]
    · rw [fX7_cheap, grd_t M_o, m_in, Option.bind_some, if_neg q1, if_neg n0, m_in, Option.bind_some, if_pos q2, if_pos rfl]
  obtain ⟨v, _, hv, rfl⟩ := inr (a := 0) (b := 1) (by decide) (by decide) q2
  refine ⟨if bst (zg z) w (2 ^ zg z 0 1) = 0 then -4 else if v = 0 then nI (bst (zg z) w (2 ^ zg z 0 1)) else nI (stS (zg z) (bst (zg z) w (2 ^ zg z 0 1))), C6_p (fun m l hc => ?_), C7_p (fun m l hc => ?_)⟩
  · have hbl := bst_lt (zg z) w (2 ^ zg z 0 1)
    rw [fX6_cheap, grd_t X_o, c_within, Option.bind_some, if_neg q1, if_neg n0, c_within, Option.bind_some, if_neg q2, if_neg n0, X_r1, Option.bind_some, c_cheapest isG_4 hc.1 hw.1 hw2 hw1, Option.bind_some]
    by_cases q : bst (zg z) w (2 ^ zg z 0 1) = 0
    · rw [q, if_pos (show nI 0 = 0 from rfl), if_pos rfl]
    · have hne : ¬ nI (bst (zg z) w (2 ^ zg z 0 1)) = 0 := by
        rw [show (0 : Int32) = nI 0 from rfl, nI_inj (by omega) (by decide)]
        exact q
      rw [if_neg hne, if_neg q]
      have : v = 0 ∨ v = 1 := by omega
      rcases this with rfl | rfl
      · rw [if_pos (show nI 0 = 0 from rfl), if_pos rfl]
      · rw [if_neg (show ¬ nI 1 = 0 by decide), if_neg (show ¬ (1 : Nat) = 0 by decide), X_r1, Option.bind_some, c_stirOf isG_4 hc.1 hw.1, bC_B7 (B7_and B7_abS), Option.bind_some]
        rfl
  · rw [fX7_cheap, grd_t M_o, m_in, Option.bind_some, if_neg q1, if_neg n0, m_in, Option.bind_some, if_neg q2, if_neg n0, m_cheap hc.1.2 hc.1.1 hw.1 hw2 hw1 hv]
