theorem wi {v a b : Nat} (hv : v < 2 ^ 31) (ha : a < 2 ^ 31) (hb : b < 2 ^ 31) : (nI v < nI a ∨ nI b < nI v) ↔ ¬ (a ≤ v ∧ v ≤ b) := by
  rw [Int32.lt_iff_toInt_lt, Int32.lt_iff_toInt_lt, nI_toInt hv, nI_toInt ha, nI_toInt hb]
  omega
theorem c_wi {v a b : Nat} {μ : Mu} (hv : v < 2 ^ 31) (ha : a < 2 ^ 31) (hb : b < 2 ^ 31) : fX6_isWithin (nI v) (nI a) (nI b) μ = some (if a ≤ v ∧ v ≤ b then 1 else 0, μ) := by
  rw [c_within]
  by_cases q : a ≤ v ∧ v ≤ b
  · rw [if_neg (fun e => (wi hv ha hb).mp e q), if_pos q]
  · rw [if_pos ((wi hv ha hb).mpr q), if_neg q]
def g00 : Gn := fun c _ => if c = 4 then 9 else 0
theorem Wf_g00 : Wf g00 := by
  refine ⟨⟨by decide, by decide, by decide, fun p hp => absurd hp (by simp [g00]), fun h hh => ⟨by simp [g00], by simp [g00], Or.inl (by simp [g00])⟩⟩, fun h hh h9 => absurd (by simp [g00]) h9, fun h h' _ _ h9 => absurd (by simp [g00]) h9⟩
theorem frb : ∀ v, v < 40 → ∀ y, y < 40 → ((1 : Int64) <<< ((nI v).toInt64 &&& 63)).toBitVec.getLsbD y = (y == v) := by decide +kernel
section TLa
variable {m m' : Nat → Nat → Int32} {l l' : Nat → Nat → Int64} {g : Gn} {n : Nat} {f : Nat → Int32} {c : Nat → Nat} {a : Nat}
theorem CG_6 (hc : CG a m l g) {v : Nat} (hv : v < 40) : CG a m (m2 l a 4 (l a 4 ||| (1 <<< ((nI v).toInt64 &&& 63)))) (m2 g 6 v 1) := by
  refine ⟨fun k hk => by rw [m2_ne (by decide)]; exact hc.1 k hk, fun p hp => ?_, fun h hh => ?_, fun y hy => ?_⟩
  · rw [m2_ne (by decide)] at hp
    rw [m2_ne (by decide)]
    exact hc.2.1 p hp
  · rw [m2_ne (show 2 ≠ 6 by decide), m2_ne (show 3 ≠ 6 by decide), m2_ne (show 4 ≠ 6 by decide), m2_ne (show 5 ≠ 6 by decide)]
    exact hc.2.2.1 h hh
  · rw [m2_at, Int64.toBitVec_or, BitVec.getLsbD_or, hc.2.2.2 y hy, frb v hv y hy]
    by_cases e : y = v
    · subst e
      rw [m2_at]
      simp
    · rw [m2_nk e]
      simp [e]
theorem c_addFrost (ha : isG a) (hc : CG a m l g) {v : Nat} (hv : v < 100) : (v ≤ 39 ∧ ∃ l', fX0_addFrost a (nI v) (Mk m l) = some (1, Mk m l') ∧ CG a m l' (m2 g 6 v 1) ∧ ∀ c, c ≠ a → l' c = l c) ∨ (¬ v ≤ 39 ∧ fX0_addFrost a (nI v) (Mk m l) = some (0, Mk m l)) := by
  have e : fX6_isWithin (nI v) 0 39 (Mk m l) = some (if 0 ≤ v ∧ v ≤ 39 then 1 else 0, Mk m l) := c_wi (a := 0) (b := 39) (by omega) (by decide) (by decide)
  rw [fX0_addFrost, grd_t (G_o ha), e, bS]
  by_cases q : v ≤ 39
  · left
    refine ⟨q, _, ?_, CG_6 hc (by omega), fun c hc => m2_ne hc⟩
    simp only [if_pos (show 0 ≤ v ∧ v ≤ 39 from ⟨Nat.zero_le v, q⟩), if_neg n0, G_gL ha, bS, G_pL ha]
  · right
    refine ⟨q, ?_⟩
    simp only [if_neg (show ¬ (0 ≤ v ∧ v ≤ 39) from fun e => q e.2), if_true]
theorem c_addPlot (ha : isG a) (hc : CG a m l g) (hw : Wb g) {v : Nat} (hv : v < 100) : ((1 ≤ v ∧ v ≤ 9 ∧ g 0 0 < 5) ∧ ∃ m', fX0_addPlot a (nI v) (Mk m l) = some (1, Mk m' l) ∧ CG a m' l (addP g v) ∧ Fr a m m') ∨ (¬ (1 ≤ v ∧ v ≤ 9 ∧ g 0 0 < 5) ∧ fX0_addPlot a (nI v) (Mk m l) = some (0, Mk m l)) := by
  have h5 := hw.1
  rw [fX0_addPlot, grd_t (G_o ha), show fX6_isWithin (nI v) 1 9 (Mk m l) = some (if 1 ≤ v ∧ v ≤ 9 then 1 else 0, Mk m l) from c_wi (a := 1) (b := 9) (by omega) (by decide) (by decide), bS]
  by_cases q : 1 ≤ v ∧ v ≤ 9
  · simp only [if_pos q, if_neg n0, G_gI ha, bS, hc.1 0 (by decide)]
    by_cases q2 : g 0 0 < 5
    · left
      simp only [if_pos (show nI (g 0 0) < 5 from nI_lt (b := 5) q2 (by decide)), G_r5 ha, bS, G_b1 ha q2, G_gI ha, m2_ne (show a ≠ a + 1 by omega), hc.1 0 (by decide), nI_1, G_pI ha]
      refine ⟨⟨q.1, q.2, q2⟩, _, rfl, ?_, (Fr.st (by omega) (by omega)).tr (Fr.st (Nat.le_refl _) (by omega))⟩
      unfold addP
      refine ⟨fun k hk => ?_, fun p hp => ?_, fun h hh => ?_, fun y hy => ?_⟩
      · by_cases e : k = 0
        · subst e
          rw [m2_at, m2_at]
        · rw [m2_nk e, m2_nk e, m2_ne (by omega), m2_ne (by decide)]
          exact hc.1 k hk
      · rw [m2_at] at hp
        rw [m2_ne (show a + 1 ≠ a by omega), m2_ne (show 1 ≠ 0 by decide)]
        by_cases e : p = g 0 0
        · subst e
          rw [m2_at, m2_at]
        · rw [m2_nk e, m2_nk e]
          exact hc.2.1 p (by omega)
      · rw [m2_ne (show a + 2 ≠ a by omega), m2_ne (show a + 3 ≠ a by omega), m2_ne (show a + 4 ≠ a by omega), m2_ne (show a + 5 ≠ a by omega), m2_ne (show a + 2 ≠ a + 1 by omega), m2_ne (show a + 3 ≠ a + 1 by omega), m2_ne (show a + 4 ≠ a + 1 by omega), m2_ne (show a + 5 ≠ a + 1 by omega), m2_ne (show 2 ≠ 0 by decide), m2_ne (show 3 ≠ 0 by decide), m2_ne (show 4 ≠ 0 by decide), m2_ne (show 5 ≠ 0 by decide), m2_ne (show 2 ≠ 1 by decide), m2_ne (show 3 ≠ 1 by decide), m2_ne (show 4 ≠ 1 by decide), m2_ne (show 5 ≠ 1 by decide)]
        exact hc.2.2.1 h hh
      · rw [m2_ne (show 6 ≠ 0 by decide), m2_ne (show 6 ≠ 1 by decide)]
        exact hc.2.2.2 y hy
    · right
      rw [if_neg (show ¬ nI (g 0 0) < 5 from Int32.not_lt.mpr (nI_le (a := 5) (by omega) (by omega)))]
      exact ⟨fun e => q2 e.2.2, rfl⟩
  · right
    rw [if_neg q, if_pos rfl]
    exact ⟨fun e => q ⟨e.1, e.2.1⟩, rfl⟩
theorem c_addHour (ha : isG a) (hc : CG a m l g) (hw : Wb g) {k w : Nat} (hk : k < 100) (hw2 : w < 100) : ((k ≤ 3 ∧ 1 ≤ w ∧ w ≤ 20 ∧ g 0 1 < 7) ∧ ∃ m', fX0_addHour a (nI k) (nI w) (Mk m l) = some (1, Mk m' l) ∧ CG a m' l (addH g k w) ∧ Fr a m m') ∨ (¬ (k ≤ 3 ∧ 1 ≤ w ∧ w ≤ 20 ∧ g 0 1 < 7) ∧ fX0_addHour a (nI k) (nI w) (Mk m l) = some (0, Mk m l)) := by
  have h7 := hw.2.1
  rw [fX0_addHour, grd_t (G_o ha), show fX6_isWithin (nI k) 0 3 (Mk m l) = some (if 0 ≤ k ∧ k ≤ 3 then 1 else 0, Mk m l) from c_wi (a := 0) (b := 3) (by omega) (by decide) (by decide), bS]
  by_cases q : k ≤ 3
  · rw [if_pos (show 0 ≤ k ∧ k ≤ 3 from ⟨Nat.zero_le k, q⟩), if_neg n0, show fX6_isWithin (nI w) 1 20 (Mk m l) = some (if 1 ≤ w ∧ w ≤ 20 then 1 else 0, Mk m l) from c_wi (a := 1) (b := 20) (by omega) (by decide) (by decide), bS]
    by_cases q1 : 1 ≤ w ∧ w ≤ 20
    · simp only [if_pos q1, if_neg n0, G_gI ha, bS, hc.1 1 (by decide)]
      by_cases q2 : g 0 1 < 7
      · left
        simp only [if_pos (show nI (g 0 1) < 7 from nI_lt (b := 7) q2 (by decide)), G_r6 ha, bS, G_gI ha, hc.1 1 (by decide), G_b2 ha q2, G_r7 ha, m2_ne (show a ≠ a + 2 by omega), m2_ne (show a ≠ a + 3 by omega), G_b3 ha q2, nI_1, G_pI ha]
        exact ⟨⟨q, q1.1, q1.2, q2⟩, _, rfl, CG_0 (CG_3 (CG_2 hc)) (by decide), (Fr.st (by omega) (by omega)).tr ((Fr.st (by omega) (by omega)).tr (Fr.st (Nat.le_refl _) (by omega)))⟩
      · right
        rw [if_neg (show ¬ nI (g 0 1) < 7 from Int32.not_lt.mpr (nI_le (a := 7) (by omega) (by omega)))]
        exact ⟨fun e => q2 e.2.2.2, rfl⟩
    · right
      rw [if_neg q1, if_pos rfl]
      exact ⟨fun e => q1 ⟨e.2.1, e.2.2.1⟩, rfl⟩
  · right
    rw [if_neg (show ¬ (0 ≤ k ∧ k ≤ 3) from fun e => q e.2), if_pos rfl]
    exact ⟨fun e => q e.1, rfl⟩
/-! a green with one more is whole -/
theorem Wf_6 (hw : Wf g) {v x : Nat} : Wf (m2 g 6 v x) := Wf_of hw (by
  refine ⟨hw.1.1, hw.1.2.1, hw.1.2.2.1, hw.1.2.2.2.1, hw.1.2.2.2.2⟩) (fun i _ => rfl) (fun i _ => rfl)
theorem Wf_addP (hw : Wf g) {v : Nat} (hv : v ≤ 9) (h5 : g 0 0 < 5) : Wf (addP g v) := by
  have e00 : addP g v 0 0 = g 0 0 + 1 := m2_at
  have e01 : addP g v 0 1 = g 0 1 := by unfold addP; rw [m2_nk (by decide), m2_ne (by decide)]
  have e02 : addP g v 0 2 = g 0 2 := by unfold addP; rw [m2_nk (by decide), m2_ne (by decide)]
  have ec : ∀ c i, c ≠ 0 → c ≠ 1 → addP g v c i = g c i := fun c i h0 h1 => by unfold addP; rw [m2_ne h0, m2_ne h1]
  refine Wf_of hw ⟨by rw [e00]; omega, by rw [e01]; exact hw.1.2.1, by rw [e02]; exact hw.1.2.2.1, fun p hp => ?_, fun h hh => ?_⟩ (fun i _ => ec 4 i (by decide) (by decide)) (fun i _ => ec 5 i (by decide) (by decide))
  · rw [e00] at hp
    unfold addP
    rw [m2_ne (by decide)]
    by_cases e : p = g 0 0
    · subst e
      rw [m2_at]
      exact hv
    · rw [m2_nk e]
      exact hw.1.2.2.2.1 p (by omega)
  · rw [ec 2 h (by decide) (by decide), ec 3 h (by decide) (by decide), ec 4 h (by decide) (by decide), ec 5 h (by decide) (by decide), e00, e01]
    have := hw.1.2.2.2.2 h hh
    refine ⟨this.1, this.2.1, ?_⟩
    omega
theorem addH_c {k w c' i : Nat} (h2 : c' ≠ 2) (h3 : c' ≠ 3) (h0 : c' ≠ 0) : addH g k w c' i = g c' i := by
  unfold addH
  rw [m2_ne h0, m2_ne h3, m2_ne h2]
theorem addH_0 {k w i : Nat} (h1 : i ≠ 1) : addH g k w 0 i = g 0 i := by
  unfold addH
  rw [m2_nk h1, m2_ne (by decide), m2_ne (by decide)]
theorem addH_1 {k w : Nat} : addH g k w 0 1 = g 0 1 + 1 := m2_at
theorem addH_2 {k w i : Nat} : addH g k w 2 i = if i = g 0 1 then k else g 2 i := by
  unfold addH
  rw [m2_ne (by decide), m2_ne (by decide)]
  by_cases e : i = g 0 1
  · rw [if_pos e, e, m2_at]
  · rw [if_neg e, m2_nk e]
theorem addH_3 {k w i : Nat} : addH g k w 3 i = if i = g 0 1 then w else g 3 i := by
  unfold addH
  rw [m2_ne (by decide)]
  by_cases e : i = g 0 1
  · rw [if_pos e, e, m2_at]
  · rw [if_neg e, m2_nk e, m2_ne (by decide)]
theorem Wf_addH (hw : Wf g) {k w : Nat} (hk : k ≤ 3) (hw2 : w ≤ 20) (h7 : g 0 1 < 7) : Wf (addH g k w) := by
  refine Wf_of hw ⟨by rw [addH_0 (by decide)]; exact hw.1.1, by rw [addH_1]; omega, by rw [addH_0 (by decide)]; exact hw.1.2.2.1, fun p hp => ?_, fun h hh => ?_⟩ (fun i _ => addH_c (by decide) (by decide) (by decide)) (fun i _ => addH_c (by decide) (by decide) (by decide))
  · rw [addH_0 (by decide)] at hp
    rw [addH_c (by decide) (by decide) (by decide)]
    exact hw.1.2.2.2.1 p hp
  · rw [addH_2, addH_3, addH_c (c' := 4) (by decide) (by decide) (by decide), addH_c (c' := 5) (by decide) (by decide) (by decide), addH_0 (i := 0) (by decide), addH_1]
    have := hw.1.2.2.2.2 h hh
    refine ⟨?_, ?_, by omega⟩
    · split <;> omega
    · split <;> omega
theorem porch (hw : Wb g) {h : Nat} (h1 : g 0 1 ≤ h) (h2 : h < 7) : g 4 h = 9 := by
  have := (hw.2.2.2.2 h h2).2.2
  omega
/-- one in the porch takes no room -/
theorem fit_addH (hw : Wf g) {k w k' p : Nat} (h7 : g 0 1 < 7) (hp : p < 9) : fit (addH g k w) k' p = fit g k' p := by
  have h9 := porch hw.1 (Nat.le_refl _) h7
  have e4 : ∀ i, addH g k w 4 i = g 4 i := fun i => addH_c (by decide) (by decide) (by decide)
  have e5 : ∀ i, addH g k w 5 i = g 5 i := fun i => addH_c (by decide) (by decide) (by decide)
  have eh : ∀ p, ht (addH g k w) p = ht g p := fun p => ht_cong (fun i _ => e4 i) p
  have ef : ∀ p d, fd (addH g k w) p d = fd g p d := by
    intro p d
    unfold fd
    have : (fun j => addH g k w 4 j == p && addH g k w 5 j == d) = (fun j => g 4 j == p && g 5 j == d) := by
      funext j
      rw [e4, e5]
    rw [this]
  have et : ∀ p, tp (addH g k w) p = tp g p := fun p => by unfold tp; rw [eh, ef]
  have e2 : ∀ i, i < 7 → g 4 i ≠ 9 → addH g k w 2 i = g 2 i := fun i _ h => by
    rw [addH_2, if_neg]
    intro e
    rw [e] at h
    exact h h9
  have etk : tk (addH g k w) p = tk g p := by
    unfold tk
    rw [et]
    by_cases q : tp g p = 7
    · rw [if_pos q, if_pos q]
    · rw [if_neg q, if_neg q]
      have := tp_is q
      exact e2 _ this.2.1 (by omega)
  have eus : us (addH g k w) p = us g p := by
    unfold us
    refine sm_cong (fun j hj => ?_)
    rw [e4]
    by_cases q : g 4 j = p
    · have hq9 : g 4 j ≠ 9 := by omega
      rw [if_pos q, if_pos q, e2 j hj hq9]
      have eb : bk (addH g k w) j = bk g j := by
        unfold bk
        rw [e5, e4, ef]
        by_cases q0 : g 5 j = 0
        · rw [if_pos q0, if_pos q0]
        · rw [if_neg q0, if_neg q0]
          by_cases q7 : fd g (g 4 j) (g 5 j - 1) = 7
          · rw [if_pos q7, if_pos q7]
          · rw [if_neg q7, if_neg q7]
            have hle := fd_le g (g 4 j) (g 5 j - 1)
            have := fd_is (show fd g (g 4 j) (g 5 j - 1) < 7 by omega)
            exact e2 _ (by omega) (by omega)
      rw [eb]
    · rw [if_neg q, if_neg q]
  unfold fit
  rw [etk, eus, addH_c (by decide) (by decide) (by decide)]
end TLa
