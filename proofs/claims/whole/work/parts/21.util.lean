/-! the memory once all is made: 107 cells, the references fixed -/
def rS : Nat → Nat → Option Nat := fun c k =>
  match c, k with
  | 0, 0 => some 1 | 0, 1 => some 4 | 0, 2 => some 10 | 0, 3 => some 16 | 0, 4 => some 66 | 0, 5 => some 80 | 0, 6 => some 84 | 0, 7 => some 91
  | 1, 1 => some 2 | 1, 2 => some 3
  | 16, 2 => some 17 | 66, 2 => some 67
  | 80, 1 => some 81 | 80, 2 => some 82 | 80, 3 => some 83
  | 84, 1 => some 85 | 84, 2 => some 86 | 84, 3 => some 87 | 84, 4 => some 88 | 84, 5 => some 89 | 84, 6 => some 90
  | 91, 2 => some 92
  | 93, 0 => some 94 | 93, 2 => some 95 | 93, 3 => some 96 | 93, 4 => some 97 | 93, 5 => some 98 | 93, 7 => some 99 | 93, 9 => some 100 | 93, 12 => some 101 | 93, 13 => some 102 | 93, 14 => some 103 | 93, 15 => some 104 | 93, 16 => some 105 | 93, 17 => some 106
  | c, k => if c = 17 then (if k < 8 then some (18 + 6 * k) else none) else if c = 67 then (if k < 2 then some (68 + 6 * k) else none)
    else if (sh c).1 = 0 ∧ c < 107 ∧ 5 ≤ k ∧ k < 10 then some (c + (k - 4)) else none
def mu0 : Mu := (0, fun _ _ => 0, fun _ _ => 0, fun _ _ => none)
/-- both made -/
def ini : Option (Nat × Nat × Mu) := (nO 6 mu0).bind fun q1 => (fX6_init q1.1 q1.2).bind fun q3 => (nO 7 q3).bind fun q5 => (fX7_init q5.1 q5.2).bind fun q7 => some (q1.1, q5.1, q7)
def oM (o : Option (Nat × Nat × Mu)) : Nat → Nat → Int32 := match o with
  | some q => q.2.2.2.1
  | none => fun _ _ => 0
def oL (o : Option (Nat × Nat × Mu)) : Nat → Nat → Int64 := match o with
  | some q => q.2.2.2.2.1
  | none => fun _ _ => 0
def oR (o : Option (Nat × Nat × Mu)) : Nat → Nat → Option Nat := match o with
  | some q => q.2.2.2.2.2
  | none => fun _ _ => none
def oB (o : Option (Nat × Nat × Mu)) : Bool := match o with
  | some q => q.1 == 0 && (q.2.1 == 93 && q.2.2.1 == 107)
  | none => false
theorem oB_s (o : Option (Nat × Nat × Mu)) (h : oB o = true) : o = some (0, 93, (107, oM o, oL o, oR o)) := by
  cases o with
  | none => exact absurd h (by decide)
  | some q =>
    obtain ⟨a, b, n, m, l, r⟩ := q
    simp only [oB, Bool.and_eq_true, beq_iff_eq] at h
    obtain ⟨rfl, rfl, rfl⟩ := h
    rfl
def rA : Nat → Nat → Option Nat := oR ini
theorem rA_eq : ∀ c, c < 107 → ∀ k, k < 18 → rA c k = rS c k := by decide +kernel
/-- the same, closed -/
def rB (f : Nat → Nat → Option Nat) : Nat → Nat → Nat → Option Nat
  | 0 => f
  | n + 1 => rB f n
termination_by n => n
theorem rB_0 (f : Nat → Nat → Option Nat) : rB f 0 = f := by rw [rB]
def rN : Nat → Nat → Option Nat := rB rA 0
theorem rN_A : rN = rA := rB_0 rA
theorem rN_eq (c : Nat) (hc : c < 107) (k : Nat) (hk : k < 18) : rN c k = rS c k := by
  rw [rN_A]
  exact rA_eq c hc k hk
def Mk (m : Nat → Nat → Int32) (l : Nat → Nat → Int64) : Mu := (107, m, l, rN)
theorem gRk {m : Nat → Nat → Int32} {l : Nat → Nat → Int64} {t a k x : Nat} (ho : isO t a (Mk m l)) (ha : a < 107) (hk : k < 18) (hx : rS a k = some x) : gR t a k (Mk m l) = some x := by
  rw [gR, grd, if_pos ho]
  exact (rN_eq a ha k hk).trans hx
def isG (a : Nat) : Prop := a = 4 ∨ a = 10 ∨ a = 18 ∨ a = 24 ∨ a = 30 ∨ a = 36 ∨ a = 42 ∨ a = 48 ∨ a = 54 ∨ a = 60 ∨ a = 68 ∨ a = 74
theorem isG_4 : isG 4 := by simp [isG]
theorem isG_10 : isG 10 := by simp [isG]
section GM
variable {m : Nat → Nat → Int32} {l : Nat → Nat → Int64} {a k : Nat}
theorem G_sh (h : isG a) : a < 102 ∧ sh a = (0, 10) ∧ sh (a + 1) = (8, 5) ∧ sh (a + 2) = (8, 7) ∧ sh (a + 3) = (8, 7) ∧ sh (a + 4) = (8, 7) ∧ sh (a + 5) = (8, 7) := by
  rcases h with rfl | rfl | rfl | rfl | rfl | rfl | rfl | rfl | rfl | rfl | rfl | rfl <;> decide
theorem G_rS (h : isG a) : rN a 5 = some (a + 1) ∧ rN a 6 = some (a + 2) ∧ rN a 7 = some (a + 3) ∧ rN a 8 = some (a + 4) ∧ rN a 9 = some (a + 5) := by
  have ha : a < 107 := by have := (G_sh h).1; omega
  rw [rN_eq a ha 5 (by decide), rN_eq a ha 6 (by decide), rN_eq a ha 7 (by decide), rN_eq a ha 8 (by decide), rN_eq a ha 9 (by decide)]
  rcases h with rfl | rfl | rfl | rfl | rfl | rfl | rfl | rfl | rfl | rfl | rfl | rfl <;> decide
theorem G_o (h : isG a) : isO 0 a (Mk m l) := ⟨by have := (G_sh h).1; show a < 107; omega, by rw [(G_sh h).2.1]⟩
theorem G_gI (h : isG a) : gI 0 a k (Mk m l) = some (m a k) := by rw [gI, grd, if_pos (G_o h)]; rfl
theorem G_gL (h : isG a) : gL 0 a k (Mk m l) = some (l a k) := by rw [gL, grd, if_pos (G_o h)]; rfl
theorem G_pI (h : isG a) {x : Int32} : pI 0 a k x (Mk m l) = some (Mk (m2 m a k x) l) := by rw [pI, grd, if_pos (G_o h)]; rfl
theorem G_pL (h : isG a) {x : Int64} : pL 0 a k x (Mk m l) = some (Mk m (m2 l a k x)) := by rw [pL, grd, if_pos (G_o h)]; rfl
theorem G_r5 (h : isG a) : gR 0 a 5 (Mk m l) = some (a + 1) := by rw [gR, grd, if_pos (G_o h)]; exact (G_rS h).1
theorem G_r6 (h : isG a) : gR 0 a 6 (Mk m l) = some (a + 2) := by rw [gR, grd, if_pos (G_o h)]; exact (G_rS h).2.1
theorem G_r7 (h : isG a) : gR 0 a 7 (Mk m l) = some (a + 3) := by rw [gR, grd, if_pos (G_o h)]; exact (G_rS h).2.2.1
theorem G_r8 (h : isG a) : gR 0 a 8 (Mk m l) = some (a + 4) := by rw [gR, grd, if_pos (G_o h)]; exact (G_rS h).2.2.2.1
theorem G_r9 (h : isG a) : gR 0 a 9 (Mk m l) = some (a + 5) := by rw [gR, grd, if_pos (G_o h)]; exact (G_rS h).2.2.2.2
theorem inb_nI {j n : Nat} (h : j < n) (hn : n < 2 ^ 31) : inb (nI j) n = true := by
  have h0 : ¬ nI j < 0 := nI_pos (by omega)
  have h1 : (nI j).toNatClampNeg = j := nI_clamp (by omega)
  simp [inb, h0, h1]
  omega
/-- reading and writing an array of a known shape -/
theorem A_get {c t n j : Nat} (hs : sh c = (t, n)) (hc : c < 107) (hj : j < n) (hn : n < 2 ^ 31) : aI t c (nI j) (Mk m l) = some (m c j) := by
  have h1 : isO t c (Mk m l) ∧ inb (nI j) (sh c).2 = true := ⟨⟨hc, by rw [hs]⟩, by rw [hs]; exact inb_nI hj hn⟩
  rw [aI, grd, if_pos h1, nI_clamp (by omega)]
  rfl
theorem A_put {c t n j : Nat} {x : Int32} (hs : sh c = (t, n)) (hc : c < 107) (hj : j < n) (hn : n < 2 ^ 31) : bI t c (nI j) x (Mk m l) = some (Mk (m2 m c j (vp_nar (tyA t) x)) l) := by
  have h1 : isO t c (Mk m l) ∧ inb (nI j) (sh c).2 = true := ⟨⟨hc, by rw [hs]⟩, by rw [hs]; exact inb_nI hj hn⟩
  rw [bI, grd, if_pos h1, nI_clamp (by omega)]
  rfl
theorem A_put8 {c n j : Nat} {x : Int32} (hs : sh c = (8, n)) (hc : c < 107) (hj : j < n) (hn : n < 2 ^ 31) : bI 8 c (nI j) x (Mk m l) = some (Mk (m2 m c j x) l) := A_put hs hc hj hn
theorem G_a1 (h : isG a) {j : Nat} (hj : j < 5) : aI 8 (a + 1) (nI j) (Mk m l) = some (m (a + 1) j) := A_get (G_sh h).2.2.1 (by have := (G_sh h).1; omega) hj (by decide)
theorem G_a2 (h : isG a) {j : Nat} (hj : j < 7) : aI 8 (a + 2) (nI j) (Mk m l) = some (m (a + 2) j) := A_get (G_sh h).2.2.2.1 (by have := (G_sh h).1; omega) hj (by decide)
theorem G_a3 (h : isG a) {j : Nat} (hj : j < 7) : aI 8 (a + 3) (nI j) (Mk m l) = some (m (a + 3) j) := A_get (G_sh h).2.2.2.2.1 (by have := (G_sh h).1; omega) hj (by decide)
theorem G_a4 (h : isG a) {j : Nat} (hj : j < 7) : aI 8 (a + 4) (nI j) (Mk m l) = some (m (a + 4) j) := A_get (G_sh h).2.2.2.2.2.1 (by have := (G_sh h).1; omega) hj (by decide)
theorem G_a5 (h : isG a) {j : Nat} (hj : j < 7) : aI 8 (a + 5) (nI j) (Mk m l) = some (m (a + 5) j) := A_get (G_sh h).2.2.2.2.2.2 (by have := (G_sh h).1; omega) hj (by decide)
theorem G_b1 (h : isG a) {j : Nat} (hj : j < 5) {x : Int32} : bI 8 (a + 1) (nI j) x (Mk m l) = some (Mk (m2 m (a + 1) j x) l) := A_put8 (G_sh h).2.2.1 (by have := (G_sh h).1; omega) hj (by decide)
theorem G_b2 (h : isG a) {j : Nat} (hj : j < 7) {x : Int32} : bI 8 (a + 2) (nI j) x (Mk m l) = some (Mk (m2 m (a + 2) j x) l) := A_put8 (G_sh h).2.2.2.1 (by have := (G_sh h).1; omega) hj (by decide)
theorem G_b3 (h : isG a) {j : Nat} (hj : j < 7) {x : Int32} : bI 8 (a + 3) (nI j) x (Mk m l) = some (Mk (m2 m (a + 3) j x) l) := A_put8 (G_sh h).2.2.2.2.1 (by have := (G_sh h).1; omega) hj (by decide)
theorem G_b4 (h : isG a) {j : Nat} (hj : j < 7) {x : Int32} : bI 8 (a + 4) (nI j) x (Mk m l) = some (Mk (m2 m (a + 4) j x) l) := A_put8 (G_sh h).2.2.2.2.2.1 (by have := (G_sh h).1; omega) hj (by decide)
theorem G_b5 (h : isG a) {j : Nat} (hj : j < 7) {x : Int32} : bI 8 (a + 5) (nI j) x (Mk m l) = some (Mk (m2 m (a + 5) j x) l) := A_put8 (G_sh h).2.2.2.2.2.2 (by have := (G_sh h).1; omega) hj (by decide)
end GM
theorem grd_t {α : Type} {c : Prop} [Decidable c] {o : Option α} (h : c) : grd c o = o := if_pos h
/-- a loop that counts up to e: an invariant, or an end on the way -/
theorem lpR {σ ρ : Type} (F : Nat → Nat → σ → Option ρ) (I : Nat → σ → Prop) (Post : Option ρ → Prop) (e : Nat) (hs : ∀ n j s, j < e → I j s → (∃ s', I (j + 1) s' ∧ F (n + 1) j s = F n (j + 1) s') ∨ Post (F (n + 1) j s)) (hx : ∀ n s, I e s → Post (F (n + 1) e s)) : ∀ (n j : Nat) (s : σ), j ≤ e → e < n + j → I j s → Post (F n j s) := by
  intro n
  induction n with
  | zero =>
    intro j s h1 h2 _
    omega
  | succ n ih =>
    intro j s h1 h2 hI
    by_cases hj : j = e
    · subst hj
      exact hx n s hI
    · rcases hs n j s (by omega) hI with ⟨s', hI', he⟩ | h
      · rw [he]
        exact ih (j + 1) s' (by omega) (by omega) hI'
      · exact h
theorem FU_big : 999999999 < FU := by decide
theorem nI_inj {a b : Nat} (ha : a < 2 ^ 31) (hb : b < 2 ^ 31) : nI a = nI b ↔ a = b := nI_eq ha hb
theorem nI_lit0 : (0 : Int32) = nI 0 := rfl
theorem n4_ne {j : Nat} (h : j < 2 ^ 31) : ¬ (-4 : Int32) = nI j := by
  intro q
  have h1 := congrArg Int32.toInt q
  rw [nI_toInt h] at h1
  have h2 : (-4 : Int32).toInt = -4 := by decide
  omega
theorem n1_ne {j : Nat} (h : j < 2 ^ 31) : ¬ (-1 : Int32) = nI j := by
  intro q
  have h1 := congrArg Int32.toInt q
  rw [nI_toInt h] at h1
  have h2 : (-1 : Int32).toInt = -1 := by decide
  omega
/-! counting -/
def ct (p : Nat → Bool) : Nat → Nat
  | 0 => 0
  | n + 1 => ct p n + (if p n then 1 else 0)
theorem ct_le (p : Nat → Bool) : ∀ n, ct p n ≤ n
  | 0 => Nat.le_refl _
  | n + 1 => by
    have h := ct_le p n
    rw [ct]
    split <;> omega
theorem ct_cong {p q : Nat → Bool} : ∀ {n : Nat}, (∀ k, k < n → p k = q k) → ct p n = ct q n
  | 0, _ => rfl
  | n + 1, h => by rw [ct, ct, ct_cong (fun k hk => h k (by omega)), h n (by omega)]
theorem ct_upd (p : Nat → Bool) (b : Bool) {i : Nat} : ∀ {n : Nat}, i < n → ct (fun k => if k = i then b else p k) n + (if p i then 1 else 0) = ct p n + (if b then 1 else 0)
  | 0, h => absurd h (Nat.not_lt_zero i)
  | n + 1, h => by
    rw [ct, ct]
    by_cases q : i = n
    · subst q
      have h1 : ct (fun k => if k = i then b else p k) i = ct p i := ct_cong (fun k hk => by simp [Nat.ne_of_lt hk])
      rw [h1]
      simp
      omega
    · have h1 := ct_upd p b (i := i) (n := n) (by omega)
      have h2 : ¬ n = i := fun e => q e.symm
      simp only [h2, if_false]
      omega
theorem ct_pos {p : Nat → Bool} {i : Nat} : ∀ {n : Nat}, i < n → p i = true → 0 < ct p n
  | 0, h, _ => absurd h (Nat.not_lt_zero i)
  | n + 1, h, hp => by
    rw [ct]
    by_cases q : i = n
    · subst q
      simp [hp]
    · have := ct_pos (n := n) (i := i) (by omega) hp
      omega
/-- the first j below n with p, or n -/
def fs1 (p : Nat → Bool) : Nat → Nat
  | 0 => 0
  | n + 1 => if fs1 p n < n then fs1 p n else if p n then n else n + 1
theorem fs1_no {p : Nat → Bool} : ∀ {n : Nat}, (∀ k, k < n → p k = false) → fs1 p n = n
  | 0, _ => rfl
  | n + 1, h => by
    rw [fs1, fs1_no (fun k hk => h k (by omega))]
    simp [h n (by omega)]
theorem fs1_at {p : Nat → Bool} {i : Nat} (hp : p i = true) (hb : ∀ k, k < i → p k = false) : ∀ {n : Nat}, i < n → fs1 p n = i
  | 0, h => absurd h (Nat.not_lt_zero i)
  | n + 1, h => by
    by_cases q : i = n
    · subst q
      rw [fs1, fs1_no hb]
      simp [hp]
    · rw [fs1, fs1_at hp hb (n := n) (by omega)]
      simp
      omega
theorem fs1_le (p : Nat → Bool) : ∀ n, fs1 p n ≤ n
  | 0 => Nat.le_refl _
  | n + 1 => by
    have h := fs1_le p n
    rw [fs1]
    split
    · omega
    · split <;> omega
theorem fs1_p {p : Nat → Bool} : ∀ {n : Nat}, fs1 p n < n → p (fs1 p n) = true
  | 0, h => absurd h (Nat.not_lt_zero _)
  | n + 1, h => by
    by_cases h1 : fs1 p n < n
    · rw [fs1, if_pos h1]
      exact fs1_p h1
    · by_cases h2 : p n = true
      · rw [fs1, if_neg h1, if_pos h2]
        exact h2
      · rw [fs1, if_neg h1, if_neg h2] at h
        omega
theorem fs1_cong {p q : Nat → Bool} : ∀ {n : Nat}, (∀ k, k < n → p k = q k) → fs1 p n = fs1 q n
  | 0, _ => rfl
  | n + 1, h => by rw [fs1, fs1, fs1_cong (fun k hk => h k (by omega)), h n (by omega)]
