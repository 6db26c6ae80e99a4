/-! the text: letters as numbers, nothing past its end -/
def Lt' (n : Nat) (f : Nat → Int32) (c : Nat → Nat) : Prop := n ≤ 200 ∧ (∀ i, i < n → 32 ≤ c i ∧ c i ≤ 126 ∧ f i = nI (c i)) ∧ ∀ i, n ≤ i → c i = 0
def dgt (x : Nat) : Bool := decide (48 ≤ x) && decide (x ≤ 57)
def fg (c : Nat → Nat) (i : Nat) : Nat := if dgt (c i) = false then 0 else if dgt (c (i + 1)) = false then 1 else 2
def nb (c : Nat → Nat) (i : Nat) : Nat := if fg c i = 1 then c i - 48 else 10 * (c i - 48) + (c (i + 1) - 48)
/-- a number at i that ends with the letter e: itself, and where it goes on -/
def rd (c : Nat → Nat) (i e : Nat) : Option (Nat × Nat) := if fg c i = 0 then none else if c (i + fg c i) = e then some (nb c i, i + fg c i + 1) else none
def addH (g : Gn) (k w : Nat) : Gn := m2 (m2 (m2 g 2 (g 0 1) k) 3 (g 0 1) w) 0 1 (g 0 1 + 1)
def addP (g : Gn) (v : Nat) : Gn := m2 (m2 g 1 (g 0 0) v) 0 0 (g 0 0 + 1)
/-- one item at i: the green with it, and where the text goes on -/
def itm (c : Nat → Nat) (g : Gn) (i : Nat) : Option (Gn × Nat) :=
  if c i = 102 then (rd c (i + 1) 59).bind fun a => if a.1 ≤ 39 then some (m2 g 6 a.1 1, a.2) else none
  else if c i = 103 then (rd c (i + 1) 59).bind fun a => if 1 ≤ a.1 ∧ a.1 ≤ 9 ∧ g 0 0 < 5 then some (addP g a.1, a.2) else none
  else if c i = 104 then (rd c (i + 1) 44).bind fun a => (rd c a.2 44).bind fun b => (rd c b.2 59).bind fun d => if a.1 ≤ 3 ∧ 1 ≤ b.1 ∧ b.1 ≤ 20 ∧ g 0 1 < 7 ∧ d.1 < g 0 0 ∧ fit g a.1 d.1 = true then some (put (addH g a.1 b.1) (g 0 1) d.1, d.2) else none
  else if c i = 119 then (rd c (i + 1) 44).bind fun a => (rd c a.2 59).bind fun b => if a.1 ≤ 3 ∧ 1 ≤ b.1 ∧ b.1 ≤ 20 ∧ g 0 1 < 7 then some (addH g a.1 b.1, b.2) else none
  else none
/-- all of it: the first fault, or none (-4), and the green so far -/
def scn (c : Nat → Nat) (n : Nat) : Nat → Gn → Nat → Int32 × Gn
  | 0, g, _ => (-4, g)
  | u + 1, g, i => if n ≤ i then (-4, g) else match itm c g i with
    | none => (nI i, g)
    | some a => scn c n u a.1 a.2
theorem fg_le (c : Nat → Nat) (i : Nat) : fg c i ≤ 2 := by
  unfold fg
  split
  · omega
  · split <;> omega
theorem dgt_t {x : Nat} : dgt x = true ↔ 48 ≤ x ∧ x ≤ 57 := by simp [dgt]
theorem fg_0 {c : Nat → Nat} {i : Nat} : fg c i = 0 ↔ dgt (c i) = false := by
  unfold fg
  by_cases h : dgt (c i) = false
  · simp [h]
  · rw [if_neg h]
    constructor
    · intro e
      split at e <;> omega
    · exact fun e => absurd e h
theorem nb_lt {c : Nat → Nat} {i : Nat} (h : fg c i ≠ 0) : nb c i < 100 := by
  have h1 : dgt (c i) = true := by
    cases e : dgt (c i)
    · exact absurd (fg_0.mpr e) h
    · rfl
  rw [dgt_t] at h1
  unfold nb
  split
  · omega
  · rename_i q
    have h2 : dgt (c (i + 1)) = true := by
      cases e : dgt (c (i + 1))
      · exfalso
        apply q
        unfold fg
        rw [if_neg (by rw [dgt_t.mpr h1]; decide), if_pos e]
      · rfl
    rw [dgt_t] at h2
    omega
theorem rd_some {c : Nat → Nat} {i e : Nat} {a : Nat × Nat} (h : rd c i e = some a) : a.1 < 100 ∧ i < a.2 ∧ a.2 ≤ i + 3 ∧ fg c i ≠ 0 ∧ a.1 = nb c i ∧ a.2 = i + fg c i + 1 ∧ c (i + fg c i) = e := by
  unfold rd at h
  by_cases h0 : fg c i = 0
  · rw [if_pos h0] at h
    exact absurd h (by simp)
  · rw [if_neg h0] at h
    by_cases h1 : c (i + fg c i) = e
    · rw [if_pos h1] at h
      have := fg_le c i
      cases h
      exact ⟨nb_lt h0, by omega, by omega, h0, rfl, rfl, h1⟩
    · rw [if_neg h1] at h
      exact absurd h (by simp)
theorem rd_end {c : Nat → Nat} {n i e : Nat} {f : Nat → Int32} (hl : Lt' n f c) (he : e ≠ 0) {a : Nat × Nat} (h : rd c i e = some a) : a.2 ≤ n := by
  have h1 := rd_some h
  by_cases q : i + fg c i < n
  · omega
  · have := hl.2.2 (i + fg c i) (by omega)
    omega
theorem itm_gt {c : Nat → Nat} {n i : Nat} {g : Gn} {f : Nat → Int32} (hl : Lt' n f c) {a : Gn × Nat} (h : itm c g i = some a) : i < a.2 ∧ a.2 ≤ n := by
  unfold itm at h
  split at h
  · cases h1 : rd c (i + 1) 59 with
    | none => rw [h1] at h; exact absurd h (by simp)
    | some b =>
      rw [h1, Option.bind_some] at h
      have := rd_some h1
      have := rd_end hl (by decide) h1
      split at h
      · cases h
        exact ⟨by show i < b.2; omega, this⟩
      · exact absurd h (by simp)
  · split at h
    · cases h1 : rd c (i + 1) 59 with
      | none => rw [h1] at h; exact absurd h (by simp)
      | some b =>
        rw [h1, Option.bind_some] at h
        have := rd_some h1
        have := rd_end hl (by decide) h1
        split at h
        · cases h
          exact ⟨by show i < b.2; omega, this⟩
        · exact absurd h (by simp)
    · split at h
      · cases h1 : rd c (i + 1) 44 with
        | none => rw [h1] at h; exact absurd h (by simp)
        | some b =>
          rw [h1, Option.bind_some] at h
          have := rd_some h1
          cases h2 : rd c b.2 44 with
          | none => rw [h2] at h; exact absurd h (by simp)
          | some d =>
            rw [h2, Option.bind_some] at h
            have := rd_some h2
            cases h3 : rd c d.2 59 with
            | none => rw [h3] at h; exact absurd h (by simp)
            | some e =>
              rw [h3, Option.bind_some] at h
              have := rd_some h3
              have := rd_end hl (by decide) h3
              split at h
              · cases h
                exact ⟨by show i < e.2; omega, this⟩
              · exact absurd h (by simp)
      · split at h
        · cases h1 : rd c (i + 1) 44 with
          | none => rw [h1] at h; exact absurd h (by simp)
          | some b =>
            rw [h1, Option.bind_some] at h
            have := rd_some h1
            cases h2 : rd c b.2 59 with
            | none => rw [h2] at h; exact absurd h (by simp)
            | some d =>
              rw [h2, Option.bind_some] at h
              have := rd_some h2
              have := rd_end hl (by decide) h2
              split at h
              · cases h
                exact ⟨by show i < d.2; omega, this⟩
              · exact absurd h (by simp)
        · exact absurd h (by simp)
/-! the class reads -/
section TXa
variable {m m' : Nat → Nat → Int32} {l l' : Nat → Nat → Int64} {g : Gn} {n : Nat} {f : Nat → Int32} {c : Nat → Nat}
theorem nar_k : ∀ k, k < 127 → vp_nar .char (nI k) = nI k := by decide
theorem c_letterAt (hl : Lt' n f c) (ht : CTx m n f) {i : Nat} (hi : i < 1000) : fX3_letterAt 1 (nI i) (Mk m l) = some (nI (c i), Mk m l) := by
  have hn := hl.1
  rw [fX3_letterAt, grd_t T_o, if_neg (nI_pos (by omega)), T_gI, Option.bind_some, ht.1]
  by_cases q : i < n
  · obtain ⟨h1, h2, h3⟩ := hl.2.1 i q
    rw [if_neg (nI_ge q (by omega)), if_neg (by rw [show (200 : Int32) = nI 200 from rfl]; exact nI_ge (by omega) (by decide)), T_r1, Option.bind_some, A_get (t := 9) (n := 200) (by decide) (by decide) (by omega) (by decide), Option.bind_some, ht.2 i q, h3, grd_t (nar_k _ (by omega))]
  · rw [if_pos (nI_le (by omega) (by omega)), hl.2.2 i (by omega)]
    rfl
theorem c_isFigure {x : Nat} {μ : Mu} (hx : x < 1000) : fX3_isFigure (nI x) μ = some (if dgt x then 1 else 0, μ) := by
  rw [fX3_isFigure]
  by_cases h1 : x < 48
  · rw [if_pos (show nI x < 48 from nI_lt (b := 48) h1 (by decide)), if_neg (by rw [dgt_t]; omega)]
  · rw [if_neg (show ¬ nI x < 48 from Int32.not_lt.mpr (nI_le (a := 48) (by omega) (by omega)))]
    by_cases h2 : 57 < x
    · rw [if_pos (show (57 : Int32) < nI x from nI_lt (a := 57) h2 (by omega)), if_neg (by rw [dgt_t]; omega)]
    · rw [if_neg (show ¬ (57 : Int32) < nI x from Int32.not_lt.mpr (nI_le (b := 57) (by omega) (by decide))), if_pos (by rw [dgt_t]; omega)]
theorem c_lt (hl : Lt' n f c) (i : Nat) : c i < 1000 := by
  by_cases q : i < n
  · have := hl.2.1 i q
    omega
  · rw [hl.2.2 i (by omega)]
    decide
theorem c_figuresAt (hl : Lt' n f c) (ht : CTx m n f) {i : Nat} (hi : i < 900) : fX3_figuresAt 1 (nI i) (Mk m l) = some (nI (fg c i), Mk m l) := by
  rw [fX3_figuresAt, grd_t T_o, c_letterAt hl ht (by omega), bS, c_isFigure (c_lt hl i), bS]
  unfold fg
  cases h1 : dgt (c i) with
  | false => rfl
  | true =>
    simp only [if_true, if_neg n0, nI_1, c_letterAt hl ht (show i + 1 < 1000 by omega), bS, c_isFigure (c_lt hl (i + 1)), Bool.true_eq_false, if_false]
    cases h2 : dgt (c (i + 1)) with
    | false => rfl
    | true => rfl
theorem nI_sub {a b : Nat} (h : b ≤ a) : nI a - nI b = nI (a - b) := by
  have : nI a = nI (a - b) + nI b := by rw [nI_add, Nat.sub_add_cancel h]
  rw [this, Int32.add_sub_cancel]
theorem c_numberAt (hl : Lt' n f c) (ht : CTx m n f) {i : Nat} (hi : i < 900) (h0 : fg c i ≠ 0) : fX3_numberAt 1 (nI i) (nI (fg c i)) (Mk m l) = some (nI (nb c i), Mk m l) := by
  have h1 : dgt (c i) = true := by
    cases e : dgt (c i)
    · exact absurd (fg_0.mpr e) h0
    · rfl
  rw [dgt_t] at h1
  rw [fX3_numberAt, grd_t T_o, c_letterAt hl ht (by omega), bS]
  unfold nb
  by_cases q : fg c i = 1
  · rw [q, if_pos rfl, if_pos (show nI 1 = 1 from rfl), show (48 : Int32) = nI 48 from rfl, nI_sub (by omega)]
  · have h2 : fg c i = 2 := by
      have := fg_le c i
      omega
    have h3 : dgt (c (i + 1)) = true := by
      cases e : dgt (c (i + 1))
      · exfalso
        apply q
        unfold fg
        rw [if_neg (by rw [dgt_t.mpr h1]; decide), if_pos e]
      · rfl
    rw [dgt_t] at h3
    rw [h2, if_neg (show ¬ nI 2 = 1 by decide), if_neg (by decide), nI_1, c_letterAt hl ht (by omega), bS, show (48 : Int32) = nI 48 from rfl, show (10 : Int32) = nI 10 from rfl, nI_sub (by omega), nI_mul, nI_add, nI_sub (by omega), show (c i - 48) * 10 + c (i + 1) - 48 = 10 * (c i - 48) + (c (i + 1) - 48) by omega]
theorem a3 {j : Nat} (hj : j < 3) : aI 8 3 (nI j) (Mk m l) = some (m 3 j) := shN (by decide) (by decide) (by exact hj)
theorem b3 {j : Nat} (hj : j < 3) {x : Int32} : bI 8 3 (nI j) x (Mk m l) = some (Mk (m2 m 3 j x) l) := shP (by decide) (by decide) (by exact hj)
theorem CTx_3 {t : Nat} {x : Int32} (ht : CTx m n f) : CTx (m2 m 3 t x) n f := CTx_eq ht (m2_ne (by decide)) (m2_ne (by decide))
/-- a step of reading an item's numbers -/
theorem c_step (hl : Lt' n f c) (ht : CTx m n f) {u K i t : Nat} (hK : K ≤ 3) (htK : t < K) (hi : i < 800) :
    (rd c i (if t + 1 = K then 59 else 44) = none ∧ ∃ m', fX3_readItem_23 (u + 1) 1 (nI K) (nI i) (nI t) (Mk m l) = some (-4, Mk m' l) ∧ F1 3 m m') ∨ ∃ a, rd c i (if t + 1 = K then 59 else 44) = some a ∧ fX3_readItem_23 (u + 1) 1 (nI K) (nI i) (nI t) (Mk m l) = fX3_readItem_23 u 1 (nI K) (nI a.2) (nI (t + 1)) (Mk (m2 m 3 t (nI a.1)) l) := by
  have hf2 := fg_le c i
  rw [fX3_readItem_23, if_neg (nI_ge htK (by omega)), if_neg (show ¬ (3 : Int32) ≤ nI t by rw [show (3 : Int32) = nI 3 from rfl]; exact nI_ge (by omega) (by decide)), c_figuresAt hl ht (by omega), bS]
  by_cases h0 : fg c i = 0
  · left
    refine ⟨by rw [rd, if_pos h0], m, ?_, F1.rf⟩
    rw [h0, if_pos (show nI 0 = 0 from rfl)]
  · have hne : ¬ nI (fg c i) = 0 := by
      rw [show (0 : Int32) = nI 0 from rfl, nI_inj (by omega) (by decide)]
      exact h0
    obtain ⟨k, hk⟩ : ∃ k, K = k + 1 := ⟨K - 1, by omega⟩
    have hl1 : (nI t = nI K - 1) ↔ t + 1 = K := by
      rw [hk, nI_pred, nI_inj (by omega) (by omega)]
      omega
    have he : ∀ e : Nat, e < 1000 → (nI (c (i + fg c i)) = nI e ↔ c (i + fg c i) = e) := fun e he => nI_inj (by have := c_lt hl (i + fg c i); omega) (by omega)
    simp only [if_neg hne, T_r2, bS, c_numberAt hl ht (show i < 900 by omega) h0, b3 (show t < 3 by omega), nI_add, c_letterAt hl (CTx_3 ht) (show i + fg c i < 1000 by omega), hl1, nI_1, show (59 : Int32) = nI 59 from rfl, show (44 : Int32) = nI 44 from rfl, he 59 (by decide), he 44 (by decide)]
    by_cases q : t + 1 = K
    · simp only [if_pos q]
      by_cases q2 : c (i + fg c i) = 59
      · right
        exact ⟨(nb c i, i + fg c i + 1), by rw [rd, if_neg h0, if_pos q2], by rw [if_pos q2]⟩
      · left
        exact ⟨by rw [rd, if_neg h0, if_neg q2], _, by rw [if_neg q2], F1.st⟩
    · simp only [if_neg q]
      by_cases q2 : c (i + fg c i) = 44
      · right
        exact ⟨(nb c i, i + fg c i + 1), by rw [rd, if_neg h0, if_pos q2], by rw [if_pos q2]⟩
      · left
        exact ⟨by rw [rd, if_neg h0, if_neg q2], _, by rw [if_neg q2], F1.st⟩
theorem c_last {u K i : Nat} (hK : K ≤ 3) : fX3_readItem_23 (u + 1) 1 (nI K) (nI i) (nI K) (Mk m l) = some (nI i, Mk m l) := by
  rw [fX3_readItem_23, if_pos (nI_le (Nat.le_refl K) (by omega))]
end TXa
