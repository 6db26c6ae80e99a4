def nL (n : Nat) : Int64 := Int64.ofNat n
theorem nL_toInt {n : Nat} (h : n < 2 ^ 63) : (nL n).toInt = n := Int64.toInt_ofNat_of_lt h
theorem nL_add (a b : Nat) : nL a + nL b = nL (a + b) := (Int64.ofNat_add a b).symm
theorem nL_mul (a b : Nat) : nL a * nL b = nL (a * b) := (Int64.ofNat_mul a b).symm
theorem bmod64 {n : Nat} (h : n < 2 ^ 63) : (n : Int).bmod (2 ^ 64) = n := by
  rw [Int.bmod_def]
  have e : ((n : Int) % ((2 ^ 64 : Nat) : Int)) = n := Int.emod_eq_of_lt (by omega) (by omega)
  rw [e, if_pos (by omega)]
theorem nL_div {a b : Nat} (ha : a < 2 ^ 63) (hb : b < 2 ^ 63) : nL a / nL b = nL (a / b) := by
  apply Int64.toInt_inj.mp
  have hq : a / b < 2 ^ 63 := Nat.lt_of_le_of_lt (Nat.div_le_self a b) ha
  rw [Int64.toInt_div, nL_toInt ha, nL_toInt hb, nL_toInt hq, ← Int.ofNat_tdiv, bmod64 hq]
theorem nL_rem {a b : Nat} (ha : a < 2 ^ 63) (hb : b < 2 ^ 63) : nL a - nL a / nL b * nL b = nL (a % b) := by
  rw [nL_div ha hb, nL_mul]
  have e : nL a = nL (a % b) + nL (a / b * b) := by
    rw [nL_add]
    congr 1
    rw [Nat.mul_comm]
    exact (Nat.mod_add_div a b).symm
  rw [e, Int64.add_sub_cancel]
theorem nI_long {a : Nat} (h : a < 2 ^ 31) : (nI a).toInt64 = nL a := by
  apply Int64.toInt_inj.mp
  rw [Int32.toInt_toInt64, nI_toInt h, nL_toInt (by omega)]
theorem nL_int {a : Nat} (h : a < 2 ^ 31) : (nL a).toInt32 = nI a := by
  apply Int32.toInt_inj.mp
  rw [Int64.toInt_toInt32, nL_toInt (by omega), nI_toInt h, Int.bmod_def]
  have e : ((a : Int) % ((2 ^ 32 : Nat) : Int)) = a := Int.emod_eq_of_lt (by omega) (by omega)
  rw [e, if_pos (by omega)]
def dr (a j : Nat) : Nat := (7919 * a + 6151 * j + 1) * (7919 * a + 6151 * j + 1) % 65521 / 2
theorem dr_lt (a j : Nat) : dr a j < 32768 := by
  have := Nat.mod_lt ((7919 * a + 6151 * j + 1) * (7919 * a + 6151 * j + 1)) (show 65521 > 0 by decide)
  unfold dr
  omega
theorem draw {a j : Nat} (ha : a ≤ 9999) (hj : j ≤ 60) {β : Type} (k : Int64 → Option β) : ((rmdL ((((7919 * (nI a).toInt64) + (6151 * (nI j).toInt64)) + 1) * (((7919 * (nI a).toInt64) + (6151 * (nI j).toInt64)) + 1)) 65521).bind fun x1 => (dvdL x1 2).bind k) = k (nL (dr a j)) := by
  have e : ((7919 * (nI a).toInt64) + (6151 * (nI j).toInt64)) + 1 = nL (7919 * a + 6151 * j + 1) := by
    rw [nI_long (by omega), nI_long (by omega), show (7919 : Int64) = nL 7919 from rfl, show (6151 : Int64) = nL 6151 from rfl, show (1 : Int64) = nL 1 from rfl, nL_mul, nL_mul, nL_add, nL_add]
  have hx : 7919 * a + 6151 * j + 1 ≤ 80000000 := by omega
  have hb : (7919 * a + 6151 * j + 1) * (7919 * a + 6151 * j + 1) < 2 ^ 63 := by
    have := Nat.mul_le_mul hx hx
    omega
  have hm := Nat.mod_lt ((7919 * a + 6151 * j + 1) * (7919 * a + 6151 * j + 1)) (show 65521 > 0 by decide)
  rw [e, nL_mul, rmdL, show (65521 : Int64) = nL 65521 from rfl, grd_t (by decide), nL_rem hb (by decide), Option.bind_some, dvdL, show (2 : Int64) = nL 2 from rfl, grd_t (by decide), nL_div (by omega) (by decide), Option.bind_some]
  rfl
/-- a turn by a draw -/
def act (g : Gn) (d : Nat) : Gn := if g 4 (d % g 0 1) = 9 then (if fro g = false ∧ fit g (g 2 (d % g 0 1)) (d / 8 % g 0 0) = true then put g (d % g 0 1) (d / 8 % g 0 0) else g) else (if d / 64 % 4 = 0 then m2 (take g (d % g 0 1)) 0 3 (g 0 3 + mv g (d % g 0 1)) else g)
theorem act_S {g : Gn} {d : Nat} : Sm g (act g d) := by
  unfold act
  split
  · split
    · exact Sm_put
    · exact Sm.rf
  · split
    · exact Sm_take.tr (Sm_m2 (by omega))
    · exact Sm.rf
theorem act_y {g : Gn} {d : Nat} : act g d 0 2 = g 0 2 := by
  unfold act
  split
  · split
    · exact put_c (by decide) (by decide)
    · rfl
  · split
    · rw [m2_nk (by decide), take_c (by decide) (by decide)]
    · rfl
theorem act_W {g : Gn} (hw : Wf g) (hP : 0 < g 0 0) (hN : 0 < g 0 1) {d : Nat} : Wf (act g d) := by
  have h1 : d % g 0 1 < g 0 1 := Nat.mod_lt _ hN
  have h2 : d / 8 % g 0 0 < g 0 0 := Nat.mod_lt _ hP
  have h7 := hw.1.2.1
  unfold act
  split
  · rename_i h9
    split
    · exact Wf_put hw h1 h2 h9
    · exact hw
  · rename_i h9
    split
    · exact Wf_0 (Wf_take hw (by omega) h9) (by decide) (by decide) (by omega)
    · exact hw
theorem take_3 {g : Gn} {x h : Nat} : take (m2 g 0 3 x) h = m2 (take g h) 0 3 x := by
  funext c k
  have ea : ∀ i, ab (m2 g 0 3 x) h i = ab g h i := fun i => rfl
  simp only [take, tkj, m2, ea]
  by_cases h4 : c = 4 ∧ k = h
  · rw [if_pos h4, if_neg (by omega), if_pos h4]
  · rw [if_neg h4, if_neg h4]
    by_cases h5 : c = 5 ∧ k < 7 ∧ ab g h k = true
    · rw [if_pos h5, if_neg (by omega), if_pos h5, if_neg (by omega)]
    · rw [if_neg h5, if_neg h5]
theorem m2_m2 {g : Gn} {x y : Nat} : m2 (m2 g 0 3 x) 0 3 y = m2 g 0 3 y := by
  funext c k
  simp only [m2]
  by_cases e : c = 0 ∧ k = 3
  · rw [if_pos e, if_pos e]
  · rw [if_neg e, if_neg e, if_neg e]
theorem act_3 {g : Gn} {t d : Nat} : act (m2 g 0 3 (g 0 3 + t)) d = m2 (act g d) 0 3 (act g d 0 3 + t) := by
  have e1 : m2 g 0 3 (g 0 3 + t) 0 1 = g 0 1 := m2_nk (by decide)
  have e0 : m2 g 0 3 (g 0 3 + t) 0 0 = g 0 0 := m2_nk (by decide)
  have e4 : ∀ i, m2 g 0 3 (g 0 3 + t) 4 i = g 4 i := fun i => by rw [m2_ne (by decide)]
  have e2 : ∀ i, m2 g 0 3 (g 0 3 + t) 2 i = g 2 i := fun i => by rw [m2_ne (by decide)]
  have ef : fro (m2 g 0 3 (g 0 3 + t)) = fro g := rfl
  have eg : ∀ k p, fit (m2 g 0 3 (g 0 3 + t)) k p = fit g k p := fun k p => rfl
  have em : ∀ h, mv (m2 g 0 3 (g 0 3 + t)) h = mv g h := fun h => rfl
  unfold act
  rw [e1, e0, e4, e2, ef, eg, em]
  split
  · split
    · rw [put_3, put_c (by decide) (by decide)]
    · rfl
  · split
    · rw [take_3, m2_m2, m2_at, m2_at, m2_m2]
      congr 1
      omega
    · rfl
section DRa
variable {m m' : Nat → Nat → Int32} {l l' : Nat → Nat → Int64} {g : Gn}
theorem c_act {a : Nat} (ha : isG a) (hc : CG a m l g) (hw : Wf g) (hP : 0 < g 0 0) (hN : 0 < g 0 1) {d : Nat} (hd : d < 2 ^ 31) : ∃ m', fX0_actByDraw a (nI d) (Mk m l) = some (Mk m' l) ∧ CG a m' l (act g d) ∧ Fr a m m' := by
  have h1 : d % g 0 1 < g 0 1 := Nat.mod_lt _ hN
  have h2 : d / 8 % g 0 0 < g 0 0 := Nat.mod_lt _ hP
  have h5 := hw.1.1
  have h7 := hw.1.2.1
  have hd8 : d / 8 < 2 ^ 31 := Nat.lt_of_le_of_lt (Nat.div_le_self d 8) hd
  have hd64 : d / 64 < 2 ^ 31 := Nat.lt_of_le_of_lt (Nat.div_le_self d 64) hd
  rw [fX0_actByDraw, grd_t (G_o ha)]
  simp only [G_gI ha, bS, hc.1 1 (by decide), hc.1 0 (by decide), if_neg (show ¬ nI (g 0 1) < 1 from Int32.not_lt.mpr (nI_le (a := 1) (by omega) (by omega))), if_pos (show (1 : Int32) ≤ nI (g 0 0) from nI_le (a := 1) (by omega) (by omega)), rmd_nI hd hN (show g 0 1 < 2 ^ 31 by omega), show (8 : Int32) = nI 8 from rfl, dvd_nI hd (show 0 < 8 by decide) (by decide), rmd_nI hd8 hP (show g 0 0 < 2 ^ 31 by omega), c_lies ha hc hw.1 h1, show (64 : Int32) = nI 64 from rfl, dvd_nI hd (show 0 < 64 by decide) (by decide), show (4 : Int32) = nI 4 from rfl, rmd_nI hd64 (show 0 < 4 by decide) (by decide), c_canBePutIn ha hc hw.1 h1 h2]
  unfold act
  by_cases h9 : g 4 (d % g 0 1) = 9
  · simp only [if_pos h9, if_true]
    by_cases q : fro g = false ∧ fit g (g 2 (d % g 0 1)) (d / 8 % g 0 0) = true
    · obtain ⟨m1, e1, g1, f1⟩ := c_setOnTop ha hc hw.1 h1 h2
      simp only [if_pos (show g 4 (d % g 0 1) = 9 ∧ fro g = false ∧ fit g (g 2 (d % g 0 1)) (d / 8 % g 0 0) = true from ⟨h9, q⟩), if_pos q, if_neg n0, e1, bS]
      exact ⟨m1, rfl, g1, f1⟩
    · simp only [if_neg (show ¬ (g 4 (d % g 0 1) = 9 ∧ fro g = false ∧ fit g (g 2 (d % g 0 1)) (d / 8 % g 0 0) = true) from fun e => q e.2), if_neg q, if_true]
      exact ⟨m, rfl, hc, Fr.rf⟩
  · simp only [if_neg h9, if_neg n0]
    by_cases q : d / 64 % 4 = 0
    · obtain ⟨m1, e1, g1, f1⟩ := c_takeUp ha hc hw.1 h1 h9
      simp only [q, if_true, if_pos (show nI 0 = 0 from rfl), e1, bS]
      exact ⟨m1, rfl, g1, f1⟩
    · have hq4 : d / 64 % 4 < 4 := Nat.mod_lt _ (by decide)
      simp only [if_neg q, if_neg (show ¬ nI (d / 64 % 4) = 0 by rw [show (0 : Int32) = nI 0 from rfl, nI_inj (by omega) (by decide)]; exact q)]
      exact ⟨m, rfl, hc, Fr.rf⟩
theorem m_turn (hs : MS m g) (ht : MT 95 m g) (hw : Wf g) (hP : 0 < g 0 0) (hN : 0 < g 0 1) {d : Nat} (hd : d < 2 ^ 31) : ∃ m', fX7_turn 93 (nI d) (Mk m l) = some (Mk m' l) ∧ MS m' (act g d) ∧ F1 97 m m' := by
  have h1 : d % g 0 1 < g 0 1 := Nat.mod_lt _ hN
  have h2 : d / 8 % g 0 0 < g 0 0 := Nat.mod_lt _ hP
  have h5 := hw.1.1
  have h7 := hw.1.2.1
  have h17 : d % g 0 1 < 7 := by omega
  have hd8 : d / 8 < 2 ^ 31 := Nat.lt_of_le_of_lt (Nat.div_le_self d 8) hd
  have hd64 : d / 64 < 2 ^ 31 := Nat.lt_of_le_of_lt (Nat.div_le_self d 64) hd
  rw [fX7_turn, grd_t M_o]
  simp only [M_r2, M_r4, bS, a95_1, a95_0, ht.1, ht.2.1, rmd_nI hd hN (show g 0 1 < 2 ^ 31 by omega), show (8 : Int32) = nI 8 from rfl, dvd_nI hd (show 0 < 8 by decide) (by decide), rmd_nI hd8 hP (show g 0 0 < 2 ^ 31 by omega), ad7, a97 (show 7 + d % g 0 1 < 21 by omega), (hs.2.2.2 _ h17).1, plM_1 (pl_le hw.1 h17), show (64 : Int32) = nI 64 from rfl, dvd_nI hd (show 0 < 64 by decide) (by decide), show (4 : Int32) = nI 4 from rfl, rmd_nI hd64 (show 0 < 4 by decide) (by decide), m_mayPut hs ht hw h17 h2, m_isFrost hs ht hw.1]
  unfold act
  by_cases h9 : g 4 (d % g 0 1) = 9
  · simp only [if_pos h9]
    by_cases q : fit g (g 2 (d % g 0 1)) (d / 8 % g 0 0) = true
    · simp only [if_pos (show g 4 (d % g 0 1) = 9 ∧ fit g (g 2 (d % g 0 1)) (d / 8 % g 0 0) = true from ⟨h9, q⟩), if_neg n0, m_isFrost hs ht hw.1, bS]
      by_cases qf : fro g = false
      · obtain ⟨m1, e1, g1, f1⟩ := m_lays (l := l) hs hw.1 h17 (show d / 8 % g 0 0 < 9 by omega)
        simp only [qf, Bool.false_eq_true, if_false, if_true, e1, bS, q, and_self]
        exact ⟨m1, rfl, g1, f1⟩
      · have qt : fro g = true := by simpa using qf
        simp only [qt, if_true, if_neg n0, Bool.true_eq_false, false_and, if_false]
        exact ⟨m, rfl, hs, F1.rf⟩
    · simp only [if_neg (show ¬ (g 4 (d % g 0 1) = 9 ∧ fit g (g 2 (d % g 0 1)) (d / 8 % g 0 0) = true) from fun e => q e.2), if_true, if_neg (show ¬ (fro g = false ∧ fit g (g 2 (d % g 0 1)) (d / 8 % g 0 0) = true) from fun e => q e.2)]
      exact ⟨m, rfl, hs, F1.rf⟩
  · simp only [if_neg h9]
    by_cases q : d / 64 % 4 = 0
    · obtain ⟨m1, e1, g1, f1⟩ := m_takes (l := l) hs hw.1 h17 h9
      simp only [q, if_true, if_pos (show nI 0 = 0 from rfl), a97_1, hs.2.1, bS, e1, nI_add, b97_1]
      exact ⟨_, rfl, MS_1 g1, f1.tr F1.st⟩
    · have hq4 : d / 64 % 4 < 4 := Nat.mod_lt _ (by decide)
      simp only [if_neg q, if_neg (show ¬ nI (d / 64 % 4) = 0 by rw [show (0 : Int32) = nI 0 from rfl, nI_inj (by omega) (by decide)]; exact q)]
      exact ⟨m, rfl, hs, F1.rf⟩
end DRa
