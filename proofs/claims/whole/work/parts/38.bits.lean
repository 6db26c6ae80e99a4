/-! sets of hours as bits -/
theorem bitS_get {x : Int32} {k : Nat} (hk : k < 8) : bitS x k = x.toBitVec.getLsbD k := by
  have hs : (nI k &&& 31).toBitVec.smod 32 = BitVec.ofNat 32 k := by
    have : ∀ y, y < 8 → (nI y &&& 31).toBitVec.smod 32 = BitVec.ofNat 32 y := by decide +kernel
    exact this k hk
  have h2 : (BitVec.ofNat 32 k).toNat = k := by
    rw [BitVec.toNat_ofNat]
    omega
  have h3 : ((1 : Int32).toBitVec) = 1#32 := by decide
  have e : (x >>> (nI k &&& 31) &&& 1).toBitVec = x.toBitVec.sshiftRight k &&& 1#32 := by
    rw [Int32.toBitVec_and, Int32.toBitVec_shiftRight, hs, h3, BitVec.sshiftRight_eq', h2]
  have e2 : x.toBitVec.getLsbD k = (x.toBitVec.sshiftRight k).getLsbD 0 := by
    rw [BitVec.getLsbD_sshiftRight]
    simp [show k < 32 by omega]
  rw [e2]
  generalize hb : x.toBitVec.sshiftRight k = b at e
  have hd : b.getLsbD 0 = decide (b.toNat % 2 = 1) := by
    rw [BitVec.getLsbD, Nat.testBit_zero]
  have hn : (b &&& 1#32).toNat = b.toNat % 2 := by
    rw [BitVec.toNat_and]
    exact Nat.and_one_is_mod _
  rw [hd, bitS]
  by_cases q : b.toNat % 2 = 1
  · have : x >>> (nI k &&& 31) &&& 1 = 1 := by
      apply Int32.toBitVec_inj.mp
      rw [e]
      apply BitVec.eq_of_toNat_eq
      rw [hn, q]
      rfl
    simp [this, q]
  · have : ¬ (x >>> (nI k &&& 31) &&& 1 = 1) := by
      intro h
      rw [h] at e
      have := congrArg BitVec.toNat e
      rw [hn] at this
      exact q this.symm
    simp [this, q]
theorem bit_or {x y : Int32} {k : Nat} (hk : k < 8) : bitS (x ||| y) k = (bitS x k || bitS y k) := by
  rw [bitS_get hk, bitS_get hk, bitS_get hk, Int32.toBitVec_or, BitVec.getLsbD_or]
theorem bit_and {x y : Int32} {k : Nat} (hk : k < 8) : bitS (x &&& y) k = (bitS x k && bitS y k) := by
  rw [bitS_get hk, bitS_get hk, bitS_get hk, Int32.toBitVec_and, BitVec.getLsbD_and]
theorem bit_not {x : Int32} {k : Nat} (hk : k < 8) : bitS (x ^^^ (-1)) k = !bitS x k := by
  rw [bitS_get hk, bitS_get hk, Int32.toBitVec_xor, BitVec.getLsbD_xor]
  have : ∀ k, k < 8 → ((-1 : Int32).toBitVec).getLsbD k = true := by decide
  rw [this k hk]
  simp
theorem bit_sh {n k : Nat} (hn : n < 7) (hk : k < 7) : bitS ((1 : Int32) <<< (nI n &&& 31)) k = (k == n) := by
  have : ∀ n, n < 7 → ∀ k, k < 7 → bitS ((1 : Int32) <<< (nI n &&& 31)) k = (k == n) := by decide +kernel
  exact this n hn k hk
theorem bit_0 {k : Nat} (hk : k < 7) : bitS 0 k = false := by
  have : ∀ k, k < 7 → bitS 0 k = false := by decide
  exact this k hk
theorem bit_orN {c : Nat → Bool} {k : Nat} (hk : k < 7) : ∀ {n : Nat}, n ≤ 7 → bitS (orN c n) k = (decide (k < n) && c k)
  | 0, _ => by simp [orN, bit_0 hk]
  | n + 1, hn => by
    have ih := bit_orN (c := c) hk (n := n) (by omega)
    rw [orN]
    by_cases q : c n = true
    · rw [if_pos q, bit_or (by omega), ih, bit_sh (by omega) hk]
      by_cases e : k = n
      · subst e
        simp [q]
      · by_cases e2 : k < n
        · simp [e, e2, show k < n + 1 by omega]
        · simp [e, e2, show ¬ k < n + 1 by omega]
    · rw [if_neg q, ih]
      by_cases e : k = n
      · subst e
        simp [q]
      · by_cases e2 : k < n
        · simp [e2, show k < n + 1 by omega]
        · simp [e2, show ¬ k < n + 1 by omega]
def B7 (x : Int32) : Prop := x &&& 127 = x
theorem B7_nI {x : Int32} (h : B7 x) : ∃ k, k < 128 ∧ x = nI k := by
  have e : (x &&& 127).toBitVec.toNat = x.toBitVec.toNat &&& 127 := by
    rw [Int32.toBitVec_and, BitVec.toNat_and]
    rfl
  have h1 : x.toBitVec.toNat < 128 := by
    have : x.toBitVec.toNat &&& 127 ≤ 127 := Nat.and_le_right
    rw [B7] at h
    rw [h] at e
    omega
  refine ⟨x.toBitVec.toNat, h1, ?_⟩
  apply Int32.toBitVec_inj.mp
  apply BitVec.eq_of_toNat_eq
  have : (nI x.toBitVec.toNat).toBitVec = BitVec.ofNat 32 x.toBitVec.toNat := rfl
  rw [this, BitVec.toNat_ofNat]
  omega
theorem nI_B7 {k : Nat} (h : k < 128) : B7 (nI k) := by
  have : ∀ k, k < 128 → nI k &&& 127 = nI k := by decide +kernel
  exact this k h
theorem B7_or {x y : Int32} (hx : B7 x) (hy : B7 y) : B7 (x ||| y) := by
  obtain ⟨a, ha, rfl⟩ := B7_nI hx
  obtain ⟨b, hb, rfl⟩ := B7_nI hy
  unfold B7 at *
  apply Int32.toBitVec_inj.mp
  apply BitVec.eq_of_getLsbD_eq
  intro i hi
  have e1 := congrArg (fun x : Int32 => x.toBitVec.getLsbD i) hx
  have e2 := congrArg (fun x : Int32 => x.toBitVec.getLsbD i) hy
  simp only [Int32.toBitVec_and, Int32.toBitVec_or, BitVec.getLsbD_and, BitVec.getLsbD_or] at e1 e2 ⊢
  rw [← e1, ← e2]
  cases (nI a).toBitVec.getLsbD i <;> cases (nI b).toBitVec.getLsbD i <;> cases (127 : Int32).toBitVec.getLsbD i <;> rfl
theorem B7_and {x y : Int32} (hx : B7 x) : B7 (x &&& y) := by
  unfold B7 at *
  apply Int32.toBitVec_inj.mp
  apply BitVec.eq_of_getLsbD_eq
  intro i hi
  have e1 := congrArg (fun x : Int32 => x.toBitVec.getLsbD i) hx
  simp only [Int32.toBitVec_and, BitVec.getLsbD_and] at e1 ⊢
  rw [← e1]
  cases x.toBitVec.getLsbD i <;> cases y.toBitVec.getLsbD i <;> cases (127 : Int32).toBitVec.getLsbD i <;> rfl
theorem B7_orN {c : Nat → Bool} : ∀ {n : Nat}, n ≤ 7 → B7 (orN c n)
  | 0, _ => by rw [orN]; exact nI_B7 (k := 0) (by decide)
  | n + 1, h => by
    rw [orN]
    split
    · refine B7_or (B7_orN (by omega)) ?_
      rw [sh1 n (by omega)]
      refine nI_B7 ?_
      have : 2 ^ n ≤ 2 ^ 6 := Nat.pow_le_pow_right (by decide) (by omega)
      omega
    · exact B7_orN (by omega)
theorem B7_abS {g : Gn} {x : Int32} : ∀ {n : Nat}, B7 (abS g x n)
  | 0 => by rw [abS]; exact nI_B7 (k := 0) (by decide)
  | n + 1 => by
    rw [abS]
    split
    · exact B7_or B7_abS (B7_orN (by decide))
    · exact B7_abS
theorem bC_B7 {x : Int32} (h : B7 x) : bC x = nI (ct (bitS x) 7) := by
  obtain ⟨k, hk, rfl⟩ := B7_nI h
  have : ∀ k, k < 128 → bC (nI k) = nI (ct (bitS (nI k)) 7) := by decide +kernel
  exact this k hk
theorem B7_zero {x : Int32} (h : B7 x) (hz : ∀ k, k < 7 → bitS x k = false) : x = 0 := by
  obtain ⟨k, hk, rfl⟩ := B7_nI h
  have : ∀ k, k < 128 → (∀ j, j < 7 → bitS (nI k) j = false) → nI k = 0 := by decide +kernel
  exact this k hk hz
theorem bit_hi {N k j : Nat} (hN : N ≤ 7) (hk : k < 2 ^ N) (hj : j < 7) (h : N ≤ j) : bitS (nI k) j = false := by
  have : ∀ N, N < 8 → ∀ k, k < 2 ^ N → ∀ j, j < 7 → N ≤ j → bitS (nI k) j = false := by decide +kernel
  exact this N (by omega) k hk j hj h
theorem ct_ext {p : Nat → Bool} {n : Nat} : ∀ {M : Nat}, n ≤ M → ct (fun k => decide (k < n) && p k) M = ct p n
  | 0, h => by
    have : n = 0 := by omega
    subst this
    rfl
  | M + 1, h => by
    by_cases q : n = M + 1
    · subst q
      exact ct_cong (fun k hk => by simp [hk])
    · rw [ct, ct_ext (by omega)]
      simp [show ¬ M < n by omega]
theorem ones_orN {c : Nat → Bool} {n : Nat} (hn : n ≤ 7) : ct (bitS (orN c n)) 7 = ct c n := by
  rw [← ct_ext (p := c) hn]
  exact ct_cong (fun k hk => bit_orN hk hn)
/-- the set is of such as lie -/
theorem set_lies {g : Gn} {N k : Nat} (hN : N ≤ 7) (hk : k < 2 ^ N) : (nI k &&& (orN (fun h => !(g 4 h == 9)) N ^^^ (-1)) = 0) ↔ alS g (nI k) N = true := by
  have hk7 : k < 128 := by
    have : 2 ^ N ≤ 2 ^ 7 := Nat.pow_le_pow_right (by decide) hN
    omega
  have key : alS g (nI k) N = true ↔ ∀ h, h < N → (bitS (nI k) h && g 4 h == 9) = false := by
    rw [alS, beq_iff_eq]
    constructor
    · intro e h hh
      by_cases q : (bitS (nI k) h && g 4 h == 9) = true
      · have := fs1_p (p := fun h => bitS (nI k) h && g 4 h == 9) (n := N)
        have hlt : ∀ M, M ≤ N → fs1 (fun h => bitS (nI k) h && g 4 h == 9) M = M → h < M → False := by
          intro M
          induction M with
          | zero => intro _ _ q3; omega
          | succ M ih =>
            intro h1 h2 h3
            rw [fs1] at h2
            by_cases q4 : fs1 (fun h => bitS (nI k) h && g 4 h == 9) M < M
            · rw [if_pos q4] at h2
              omega
            · rw [if_neg q4] at h2
              by_cases q5 : (bitS (nI k) M && g 4 M == 9) = true
              · rw [if_pos q5] at h2
                omega
              · by_cases q6 : h = M
                · subst q6
                  exact q5 q
                · have := fs1_le (fun h => bitS (nI k) h && g 4 h == 9) M
                  exact ih (by omega) (by omega) (by omega)
        exact absurd (hlt N (Nat.le_refl _) e hh) id
      · simpa using q
    · exact fun h => fs1_no h
  rw [key]
  constructor
  · intro e h hh
    have := congrArg (fun x => bitS x h) e
    simp only [bit_and (show h < 8 by omega), bit_not (show h < 8 by omega), bit_orN (show h < 7 by omega) hN, bit_0 (show h < 7 by omega), decide_eq_true hh, Bool.true_and, Bool.not_not] at this
    exact this
  · intro e
    refine B7_zero (B7_and (nI_B7 hk7)) (fun h hh => ?_)
    rw [bit_and (by omega), bit_not (by omega), bit_orN hh hN]
    by_cases q : h < N
    · rw [decide_eq_true q, Bool.true_and, Bool.not_not]
      exact e h q
    · rw [bit_hi hN hk hh (by omega)]
      rfl
theorem sm_ext {f : Nat → Nat} {n : Nat} {p : Nat → Bool} (h : ∀ k, k < n → p k = true) : sm (fun k => if p k then f k else 0) n = sm f n := sm_cong (fun k hk => by rw [if_pos (h k hk)])
theorem wS_lies {g : Gn} {N : Nat} (hN : N ≤ 7) : wS g (orN (fun h => !(g 4 h == 9)) N) N = sm (fun h => if g 4 h = 9 then 0 else g 3 h) N := by
  refine sm_cong (fun k hk => ?_)
  rw [bit_orN (by omega) hN, decide_eq_true hk, Bool.true_and]
  by_cases q : g 4 k = 9
  · simp [q]
  · simp [q]
