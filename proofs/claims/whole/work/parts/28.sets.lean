/-- bits of those j below n with c -/
def orN (c : Nat → Bool) : Nat → Int32
  | 0 => 0
  | n + 1 => if c n then orN c n ||| (1 <<< (nI n &&& 31)) else orN c n
theorem orN_more {c : Nat → Bool} {e : Nat} : ∀ {n : Nat}, e ≤ n → (∀ k, e ≤ k → k < n → c k = false) → orN c n = orN c e
  | 0, h, _ => by
    have : e = 0 := by omega
    rw [this]
  | n + 1, h, hc => by
    by_cases q : e = n + 1
    · rw [q]
    · rw [orN, hc n (by omega) (by omega)]
      simp
      exact orN_more (by omega) (fun k h1 h2 => hc k h1 (by omega))
theorem orN_cong {c d : Nat → Bool} : ∀ {n : Nat}, (∀ k, k < n → c k = d k) → orN c n = orN d n
  | 0, _ => rfl
  | n + 1, h => by rw [orN, orN, orN_cong (fun k hk => h k (by omega)), h n (by omega)]
def bitS (x : Int32) (h : Nat) : Bool := (x >>> (nI h &&& 31)) &&& 1 == 1
def wS (g : Gn) (x : Int32) (n : Nat) : Nat := sm (fun h => if bitS x h then g 3 h else 0) n
/-- all those above one of a set -/
def abS (g : Gn) (x : Int32) : Nat → Int32
  | 0 => 0
  | n + 1 => if bitS x n then abS g x n ||| orN (ab g n) 7 else abS g x n
section CGs
variable {a : Nat} {m : Nat → Nat → Int32} {l : Nat → Nat → Int64} {g : Gn}
theorem ab_N (hw : Wb g) {h k : Nat} (h1 : g 0 1 ≤ k) (h2 : k < 7) : ab g h k = false := by
  have b := (hw.2.2.2.2 k h2).2.2
  have : g 4 k = 9 := by omega
  simp only [ab, this]
  by_cases q : g 4 h = 9
  · simp [q]
  · simp only [Bool.and_eq_false_iff]
    right
    left
    simp
    exact fun z => q z.symm
theorem c_bitsAbove (ha : isG a) (hc : CG a m l g) (hw : Wb g) {h : Nat} (hh : h < g 0 1) : fX0_bitsAbove a (nI h) (Mk m l) = some (orN (ab g h) 7, Mk m l) := by
  have h7 := hw.2.1
  rw [fX0_bitsAbove, grd_t (G_o ha), orN_more h7 (fun k h1 h2 => ab_N hw h1 h2)]
  refine lpR (fun n j (x : Int32) => fX0_bitsAbove_4 n a (nI h) x (nI j) (Mk m l)) (fun j x => x = orN (ab g h) j) (fun o => o = some (orN (ab g h) (g 0 1), Mk m l)) (g 0 1) ?_ ?_ FU 0 0 (by omega) (by have := FU_big; omega) rfl
  · intro n j s hj hI
    left
    subst hI
    refine ⟨_, rfl, ?_⟩
    rw [fX0_bitsAbove_4, G_gI ha, Option.bind_some, hc.1 1 (by decide), if_neg (nI_ge hj (by omega)), c_isAbove ha hc hw hh hj, Option.bind_some, orN]
    by_cases q : ab g h j = true
    · simp only [q, if_true, if_neg (show ¬ (1 : Int32) = 0 by decide), nI_1]
    · simp only [Bool.not_eq_true] at q
      simp only [q, Bool.false_eq_true, if_false, if_true, nI_1]
  · intro n s hI
    subst hI
    rw [fX0_bitsAbove_4, G_gI ha, Option.bind_some, hc.1 1 (by decide), if_pos (nI_le (Nat.le_refl _) (by omega))]
theorem c_lyingCount (ha : isG a) (hc : CG a m l g) (hw : Wb g) : fX0_lyingCount a (Mk m l) = some (nI (ct (fun h => !(g 4 h == 9)) (g 0 1)), Mk m l) := by
  have h7 := hw.2.1
  rw [fX0_lyingCount, grd_t (G_o ha)]
  refine lpR (fun n j (x : Int32) => fX0_lyingCount_4 n a x (nI j) (Mk m l)) (fun j x => x = nI (ct (fun h => !(g 4 h == 9)) j)) (fun o => o = some (nI (ct (fun h => !(g 4 h == 9)) (g 0 1)), Mk m l)) (g 0 1) ?_ ?_ FU 0 0 (by omega) (by have := FU_big; omega) rfl
  · intro n j s hj hI
    left
    subst hI
    refine ⟨_, rfl, ?_⟩
    rw [fX0_lyingCount_4, G_gI ha, Option.bind_some, hc.1 1 (by decide), if_neg (nI_ge hj (by omega)), c_lies ha hc hw hj, Option.bind_some, ct]
    by_cases q : g 4 j = 9
    · simp [q, nI_1]
    · simp [q, nI_1]
  · intro n s hI
    subst hI
    rw [fX0_lyingCount_4, G_gI ha, Option.bind_some, hc.1 1 (by decide), if_pos (nI_le (Nat.le_refl _) (by omega))]
theorem c_lyingWorth (ha : isG a) (hc : CG a m l g) (hw : Wb g) : fX0_lyingWorth a (Mk m l) = some (nI (sm (fun h => if g 4 h = 9 then 0 else g 3 h) (g 0 1)), Mk m l) := by
  have h7 := hw.2.1
  rw [fX0_lyingWorth, grd_t (G_o ha)]
  refine lpR (fun n j (x : Int32) => fX0_lyingWorth_4 n a x (nI j) (Mk m l)) (fun j x => x = nI (sm (fun h => if g 4 h = 9 then 0 else g 3 h) j)) (fun o => o = some (nI (sm (fun h => if g 4 h = 9 then 0 else g 3 h) (g 0 1)), Mk m l)) (g 0 1) ?_ ?_ FU 0 0 (by omega) (by have := FU_big; omega) rfl
  · intro n j s hj hI
    left
    subst hI
    refine ⟨_, rfl, ?_⟩
    rw [fX0_lyingWorth_4, G_gI ha, Option.bind_some, hc.1 1 (by decide), if_neg (nI_ge hj (by omega)), c_lies ha hc hw hj, Option.bind_some, sm]
    by_cases q : g 4 j = 9
    · simp [q, nI_1]
    · simp [q, nI_1, c_worthOf ha hc hw hj, nI_add]
  · intro n s hI
    subst hI
    rw [fX0_lyingWorth_4, G_gI ha, Option.bind_some, hc.1 1 (by decide), if_pos (nI_le (Nat.le_refl _) (by omega))]
theorem sh1 : ∀ n, n < 8 → (1 : Int32) <<< (nI n &&& 31) = nI (2 ^ n) := by decide +kernel
theorem c_setCount (ha : isG a) (hc : CG a m l g) (hw : Wb g) : fX0_setCount a (Mk m l) = some (nI (2 ^ g 0 1), Mk m l) := by
  have h7 := hw.2.1
  rw [fX0_setCount, grd_t (G_o ha), G_gI ha, Option.bind_some, hc.1 1 (by decide), sh1 _ (by omega)]
/-- the set's hours all lie -/
def alS (g : Gn) (x : Int32) (n : Nat) : Bool := fs1 (fun h => bitS x h && g 4 h == 9) n == n
theorem c_allLie (ha : isG a) (hc : CG a m l g) (hw : Wb g) (x : Int32) : fX0_allLie a x (Mk m l) = some (if alS g x (g 0 1) then 1 else 0, Mk m l) := by
  have h7 := hw.2.1
  rw [fX0_allLie, grd_t (G_o ha)]
  refine lpR (fun n j (_ : Unit) => fX0_allLie_2 n a x (nI j) (Mk m l)) (fun j _ => ∀ k, k < j → (bitS x k && g 4 k == 9) = false) (fun o => o = some (if alS g x (g 0 1) then 1 else 0, Mk m l)) (g 0 1) ?_ ?_ FU 0 () (by omega) (by have := FU_big; omega) (fun k hk => absurd hk (by omega))
  · intro n j s hj hI
    rw [fX0_allLie_2, G_gI ha, Option.bind_some, hc.1 1 (by decide), if_neg (nI_ge hj (by omega))]
    by_cases q : bitS x j = true
    · have q1 : ((x >>> (nI j &&& 31)) &&& 1) = 1 := by simpa [bitS] using q
      rw [if_pos q1, c_lies ha hc hw hj, Option.bind_some]
      by_cases h9 : g 4 j = 9
      · right
        have : alS g x (g 0 1) = false := by
          rw [alS, fs1_at (i := j) (by simp [q, h9]) hI hj]
          simp
          omega
        simp [h9, this]
      · left
        refine ⟨(), fun k hk => ?_, ?_⟩
        · by_cases hk2 : k = j
          · subst hk2
            simp [h9]
          · exact hI k (by omega)
        · simp [h9, nI_1]
    · left
      have q1 : ¬ ((x >>> (nI j &&& 31)) &&& 1) = 1 := by simpa [bitS] using q
      refine ⟨(), fun k hk => ?_, by rw [if_neg q1, nI_1]⟩
      by_cases hk2 : k = j
      · subst hk2
        simp [q]
      · exact hI k (by omega)
  · intro n s hI
    rw [fX0_allLie_2, G_gI ha, Option.bind_some, hc.1 1 (by decide), if_pos (nI_le (Nat.le_refl _) (by omega))]
    have : alS g x (g 0 1) = true := by
      rw [alS, fs1_no hI]
      simp
    simp [this]
theorem c_worthOfSet (ha : isG a) (hc : CG a m l g) (hw : Wb g) (x : Int32) : fX0_worthOfSet a x (Mk m l) = some (nI (wS g x (g 0 1)), Mk m l) := by
  have h7 := hw.2.1
  rw [fX0_worthOfSet, grd_t (G_o ha)]
  refine lpR (fun n j (y : Int32) => fX0_worthOfSet_4 n a x y (nI j) (Mk m l)) (fun j y => y = nI (wS g x j)) (fun o => o = some (nI (wS g x (g 0 1)), Mk m l)) (g 0 1) ?_ ?_ FU 0 0 (by omega) (by have := FU_big; omega) rfl
  · intro n j s hj hI
    left
    subst hI
    refine ⟨_, rfl, ?_⟩
    rw [fX0_worthOfSet_4, G_gI ha, Option.bind_some, hc.1 1 (by decide), if_neg (nI_ge hj (by omega))]
    by_cases q : bitS x j = true
    · have q1 : ((x >>> (nI j &&& 31)) &&& 1) = 1 := by simpa [bitS] using q
      rw [if_pos q1, c_worthOf ha hc hw hj, Option.bind_some, nI_add, nI_1]
      simp [wS, sm, q]
    · have q1 : ¬ ((x >>> (nI j &&& 31)) &&& 1) = 1 := by simpa [bitS] using q
      rw [if_neg q1, nI_1]
      simp [wS, sm, q]
  · intro n s hI
    subst hI
    rw [fX0_worthOfSet_4, G_gI ha, Option.bind_some, hc.1 1 (by decide), if_pos (nI_le (Nat.le_refl _) (by omega))]
/-- Integer.bitCount -/
def bC (x : Int32) : Int32 := match fJ6_bitCount_0f7a4 x (0, fun _ _ => 0, fun _ _ => 0, fun _ _ => none) with
  | some r => r.1
  | none => 0
theorem c_bitCount (x : Int32) (μ : Mu) : fJ6_bitCount_0f7a4 x μ = some (bC x, μ) := rfl
theorem c_stirOf (ha : isG a) (hc : CG a m l g) (hw : Wb g) (x : Int32) : fX0_stirOf a x (Mk m l) = some (bC (abS g x (g 0 1) &&& (x ^^^ (-1))), Mk m l) := by
  have h7 := hw.2.1
  rw [fX0_stirOf, grd_t (G_o ha)]
  refine lpR (fun n j (y : Int32) => fX0_stirOf_4 n a x y (nI j) (Mk m l)) (fun j y => y = abS g x j) (fun o => o = some (bC (abS g x (g 0 1) &&& (x ^^^ (-1))), Mk m l)) (g 0 1) ?_ ?_ FU 0 0 (by omega) (by have := FU_big; omega) rfl
  · intro n j s hj hI
    left
    subst hI
    refine ⟨_, rfl, ?_⟩
    rw [fX0_stirOf_4, G_gI ha, Option.bind_some, hc.1 1 (by decide), if_neg (nI_ge hj (by omega))]
    by_cases q : bitS x j = true
    · have q1 : ((x >>> (nI j &&& 31)) &&& 1) = 1 := by simpa [bitS] using q
      rw [if_pos q1, c_bitsAbove ha hc hw hj, Option.bind_some, nI_1]
      simp [abS, q]
    · have q1 : ¬ ((x >>> (nI j &&& 31)) &&& 1) = 1 := by simpa [bitS] using q
      rw [if_neg q1, nI_1]
      simp [abS, q]
  · intro n s hI
    subst hI
    rw [fX0_stirOf_4, G_gI ha, Option.bind_some, hc.1 1 (by decide), if_pos (nI_le (Nat.le_refl _) (by omega)), c_bitCount]
    rfl
end CGs
