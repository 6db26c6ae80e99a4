/-! how all that waits goes in best: a plot is what is free in it (-1: shut) and whether a poor one is on top -/
abbrev Pls : Type := Nat → Int × Bool
def pn (s : Int × Bool) (k : Nat) : Nat := nd (if s.2 = true then 2 else 0) k
def pf (s : Int × Bool) (k : Nat) : Prop := (pn s k : Int) ≤ s.1
theorem pf_dec (s : Int × Bool) (k : Nat) : pf s k ∨ ¬ pf s k := Classical.em _
def pfb (s : Int × Bool) (k : Nat) : Bool := decide ((pn s k : Int) ≤ s.1)
theorem pfb_t {s : Int × Bool} {k : Nat} : pfb s k = true ↔ pf s k := by simp [pfb, pf]
def pp (s : Int × Bool) (k : Nat) : Int × Bool := (if k = 3 then -1 else s.1 - pn s k, k == 2)
def pu (f : Pls) (p : Nat) (x : Int × Bool) : Pls := fun q => if q = p then x else f q
def su (t : Nat → Nat) (h p : Nat) : Nat → Nat := fun j => if j = h then p else t j
def mxp (F : Nat → Nat) (b : Nat) : Nat → Nat
  | 0 => b
  | n + 1 => max (mxp F b n) (F n)
theorem mxp_le {F : Nat → Nat} {b x : Nat} : ∀ {n : Nat}, mxp F b n ≤ x ↔ b ≤ x ∧ ∀ p, p < n → F p ≤ x
  | 0 => by simp [mxp]
  | n + 1 => by
    rw [mxp, Nat.max_le, mxp_le (n := n)]
    constructor
    · rintro ⟨⟨h1, h2⟩, h3⟩
      refine ⟨h1, fun p hp => ?_⟩
      by_cases q : p = n
      · rw [q]; exact h3
      · exact h2 p (by omega)
    · rintro ⟨h1, h2⟩
      exact ⟨⟨h1, fun p hp => h2 p (by omega)⟩, h2 n (by omega)⟩
/-- the most worth that goes in -/
def Vs (P : Nat) (k w : Nat → Nat) : List Nat → Pls → Nat
  | [], _ => 0
  | h :: t, f => mxp (fun p => if pfb (f p) (k h) = true then w h + Vs P k w t (pu f p (pp (f p) (k h))) else 0) (Vs P k w t f) P
/-- a fold from j on, d of them -/
def fr {α : Type} (F : Nat → α → α) : α → Nat → Nat → α
  | a, _, 0 => a
  | a, j, d + 1 => fr F (F j a) (j + 1) d
abbrev Ac : Type := Int × (Nat → Nat)
/-- the first best way, from the first on -/
def Sr (P : Nat) (k w : Nat → Nat) : List Nat → Pls → Nat → (Nat → Nat) → Ac → Ac
  | [], _, won, tr, a => if a.1 < (won : Int) then ((won : Int), tr) else a
  | h :: t, f, won, tr, a => Sr P k w t f won (su tr h 9) (fr (fun p b => if pfb (f p) (k h) = true then Sr P k w t (pu f p (pp (f p) (k h))) (won + w h) (su tr h p) b else b) a 0 P)
def sF (P : Nat) (k w : Nat → Nat) (h : Nat) (t : List Nat) (f : Pls) (won : Nat) (tr : Nat → Nat) : Nat → Ac → Ac := fun p b => if pfb (f p) (k h) = true then Sr P k w t (pu f p (pp (f p) (k h))) (won + w h) (su tr h p) b else b
section SRa
variable {P : Nat} {k w : Nat → Nat}
theorem Sr_c {h : Nat} {t : List Nat} {f : Pls} {won : Nat} {tr : Nat → Nat} {a : Ac} : Sr P k w (h :: t) f won tr a = Sr P k w t f won (su tr h 9) (fr (sF P k w h t f won tr) a 0 P) := by
  rw [Sr]
  rfl
theorem Vs_c {h : Nat} {t : List Nat} {f : Pls} {x : Nat} : Vs P k w (h :: t) f ≤ x ↔ Vs P k w t f ≤ x ∧ ∀ p, p < P → pf (f p) (k h) → w h + Vs P k w t (pu f p (pp (f p) (k h))) ≤ x := by
  rw [Vs, mxp_le]
  constructor
  · rintro ⟨h1, h2⟩
    refine ⟨h1, fun p hp hq => ?_⟩
    have := h2 p hp
    rw [if_pos (pfb_t.mpr hq)] at this
    exact this
  · rintro ⟨h1, h2⟩
    refine ⟨h1, fun p hp => ?_⟩
    by_cases q : pfb (f p) (k h) = true
    · rw [if_pos q]
      exact h2 p hp (pfb_t.mp q)
    · rw [if_neg q]
      exact Nat.zero_le _
theorem fr_no {α : Type} {F : Nat → α → α} {a : α} : ∀ {d j : Nat}, (∀ p, j ≤ p → p < j + d → F p a = a) → fr F a j d = a
  | 0, _, _ => rfl
  | d + 1, j, h => by
    rw [fr, h j (Nat.le_refl _) (by omega)]
    exact fr_no (fun p h1 h2 => h p (by omega) (by omega))
theorem Sr_no : ∀ {L : List Nat} {f : Pls} {won : Nat} {tr : Nat → Nat} {a : Ac}, ((won : Int) + (Vs P k w L f : Nat)) ≤ a.1 → Sr P k w L f won tr a = a
  | [], f, won, tr, a, h => by
    rw [Sr, if_neg]
    rw [Vs] at h
    omega
  | x :: t, f, won, tr, a, h => by
    have hv := Vs_c.mp (Nat.le_refl (Vs P k w (x :: t) f))
    have hf : fr (sF P k w x t f won tr) a 0 P = a := by
      refine fr_no (fun p _ hp => ?_)
      rw [sF]
      by_cases q : pfb (f p) (k x) = true
      · rw [if_pos q]
        have := hv.2 p (by omega) (pfb_t.mp q)
        exact Sr_no (by omega)
      · rw [if_neg q]
    rw [Sr_c, hf]
    exact Sr_no (by omega)
theorem fr_le {F : Nat → Ac → Ac} {x : Int} {G : Nat → Prop} (hF : ∀ p b, (F p b).1 ≤ x ↔ b.1 ≤ x ∧ G p) : ∀ {d j : Nat} {a : Ac}, (fr F a j d).1 ≤ x ↔ a.1 ≤ x ∧ ∀ p, j ≤ p → p < j + d → G p
  | 0, j, a => by
    rw [fr]
    exact ⟨fun h => ⟨h, fun p h1 h2 => absurd h2 (by omega)⟩, fun h => h.1⟩
  | d + 1, j, a => by
    rw [fr, fr_le hF (d := d), hF]
    constructor
    · rintro ⟨⟨h1, h2⟩, h3⟩
      refine ⟨h1, fun p q1 q2 => ?_⟩
      by_cases q : p = j
      · rw [q]; exact h2
      · exact h3 p (by omega) (by omega)
    · rintro ⟨h1, h2⟩
      exact ⟨⟨h1, h2 j (Nat.le_refl _) (by omega)⟩, fun p q1 q2 => h2 p (by omega) (by omega)⟩
theorem Sr_le : ∀ {L : List Nat} {f : Pls} {won : Nat} {tr : Nat → Nat} {a : Ac} {x : Int}, (Sr P k w L f won tr a).1 ≤ x ↔ a.1 ≤ x ∧ ((won : Int) + (Vs P k w L f : Nat)) ≤ x
  | [], f, won, tr, a, x => by
    rw [Sr, Vs]
    by_cases q : a.1 < (won : Int)
    · rw [if_pos q]
      constructor
      · intro h
        have h : (won : Int) ≤ x := h
        exact ⟨by omega, by omega⟩
      · intro h
        show (won : Int) ≤ x
        omega
    · rw [if_neg q]
      constructor
      · intro h
        exact ⟨h, by omega⟩
      · exact fun h => h.1
  | y :: t, f, won, tr, a, x => by
    rw [Sr_c, Sr_le (L := t), fr_le (G := fun p => pf (f p) (k y) → ((won : Int) + (w y : Nat) + (Vs P k w t (pu f p (pp (f p) (k y))) : Nat)) ≤ x) (fun p b => ?_)]
    · have e : ((won : Int) + (Vs P k w (y :: t) f : Nat)) ≤ x ↔ ((won : Int) + (Vs P k w t f : Nat)) ≤ x ∧ ∀ p, p < P → pf (f p) (k y) → ((won : Int) + (w y : Nat) + (Vs P k w t (pu f p (pp (f p) (k y))) : Nat)) ≤ x := by
        by_cases hx : x < won
        · constructor
          · intro h
            exact absurd h (by omega)
          · intro h
            exact absurd h.1 (by omega)
        · obtain ⟨n, hn⟩ : ∃ n : Nat, x = won + n := ⟨(x - won).toNat, by omega⟩
          subst hn
          have := Vs_c (P := P) (k := k) (w := w) (h := y) (t := t) (f := f) (x := n)
          constructor
          · intro h
            have h2 := this.mp (by omega)
            exact ⟨by omega, fun p hp hq => by have := h2.2 p hp hq; omega⟩
          · intro h
            have := this.mpr ⟨by omega, fun p hp hq => by have := h.2 p hp hq; omega⟩
            omega
      rw [e]
      constructor
      · rintro ⟨⟨h1, h2⟩, h3⟩
        exact ⟨h1, h3, fun p hp hq => h2 p (Nat.zero_le _) (by omega) hq⟩
      · rintro ⟨h1, h3, h2⟩
        exact ⟨⟨h1, fun p _ hp hq => h2 p (by omega) hq⟩, h3⟩
    · show (sF P k w y t f won tr p b).1 ≤ x ↔ _
      rw [sF]
      by_cases q : pfb (f p) (k y) = true
      · rw [if_pos q, Sr_le (L := t)]
        have hq := pfb_t.mp q
        constructor
        · rintro ⟨h1, h2⟩
          exact ⟨h1, fun _ => by omega⟩
        · rintro ⟨h1, h2⟩
          exact ⟨h1, by have := h2 hq; omega⟩
      · rw [if_neg q]
        exact ⟨fun h => ⟨h, fun z => absurd (pfb_t.mpr z) q⟩, fun h => h.1⟩
/-- all that waits, together -/
def sw (w : Nat → Nat) : List Nat → Nat
  | [] => 0
  | h :: t => w h + sw w t
theorem Vs_sw : ∀ {L : List Nat} {f : Pls}, Vs P k w L f ≤ sw w L
  | [], _ => Nat.le_refl _
  | h :: t, f => by
    rw [Vs_c]
    refine ⟨?_, fun p _ _ => ?_⟩
    · have := Vs_sw (L := t) (f := f)
      rw [sw]
      omega
    · have := Vs_sw (L := t) (f := pu f p (pp (f p) (k h)))
      rw [sw]
      omega
end SRa
/-! two plots alike -/
def nm (k : Nat) : Nat := if k = 3 then 0 else nd 9 k
def ls (k : Nat → Nat) : List Nat → Nat
  | [] => 0
  | h :: t => nm (k h) + ls k t
def sto (k : Nat → Nat) : List Nat → Nat
  | [] => 0
  | h :: t => if k h = 3 then 1 else sto k t
def rc (k : Nat → Nat) (L : List Nat) : Nat := ls k L + sto k L
theorem sto_le (k : Nat → Nat) : ∀ L, sto k L ≤ 1
  | [] => by simp [sto]
  | h :: t => by
    rw [sto]
    split
    · omega
    · exact sto_le k t
theorem pn_nm {s : Int × Bool} {k : Nat} (h : k ≠ 3) : pn s k ≤ nm k := by
  rw [pn, nm, if_neg h, nd, nd]
  by_cases q : k = 2
  · simp [q]
    split <;> omega
  · by_cases q1 : k = 1
    · simp [q1]
    · simp [q, q1]
theorem rc_c {k : Nat → Nat} {h : Nat} {t : List Nat} {s : Int × Bool} : pn s (k h) ≤ rc k (h :: t) ∧ rc k t ≤ rc k (h :: t) ∧ (k h ≠ 3 → pn s (k h) + rc k t ≤ rc k (h :: t)) := by
  rw [rc, rc, ls, sto]
  have := sto_le k t
  by_cases q : k h = 3
  · rw [if_pos q, q]
    have : pn s 3 = 1 := by simp [pn, nd]
    have : nm 3 = 0 := by simp [nm]
    exact ⟨by omega, by omega, fun z => absurd rfl z⟩
  · rw [if_neg q]
    have := pn_nm (s := s) q
    exact ⟨by omega, by omega, fun _ => by omega⟩
/-- as good as, for all that needs r at most -/
def Dm (r : Nat) (a b : Int × Bool) : Prop := a = b ∨ (r : Int) ≤ a.1
theorem Dm_pf {k : Nat → Nat} {h : Nat} {t : List Nat} {a b : Int × Bool} (hd : Dm (rc k (h :: t)) a b) (hf : pf b (k h)) : pf a (k h) := by
  rcases hd with q | q
  · rw [q]; exact hf
  · have := (rc_c (k := k) (h := h) (t := t) (s := a)).1
    unfold pf
    omega
theorem Dm_pp {k : Nat → Nat} {h : Nat} {t : List Nat} {a b : Int × Bool} (hd : Dm (rc k (h :: t)) a b) : Dm (rc k t) (pp a (k h)) (pp b (k h)) := by
  rcases hd with q | q
  · rw [q]; exact Or.inl rfl
  · by_cases q3 : k h = 3
    · left
      simp [pp, q3]
    · right
      have := (rc_c (k := k) (h := h) (t := t) (s := a)).2.2 q3
      show (rc k t : Int) ≤ if k h = 3 then -1 else a.1 - pn a (k h)
      rw [if_neg q3]
      omega
theorem Dm_le {r r' : Nat} {a b : Int × Bool} (h : Dm r a b) (hr : r' ≤ r) : Dm r' a b := by
  rcases h with q | q
  · exact Or.inl q
  · exact Or.inr (by omega)
theorem Vs_mono {P : Nat} {k w : Nat → Nat} : ∀ {L : List Nat} {f f' : Pls}, (∀ p, p < P → Dm (rc k L) (f p) (f' p)) → Vs P k w L f' ≤ Vs P k w L f
  | [], _, _, _ => Nat.le_refl _
  | h :: t, f, f', hd => by
    have hv := Vs_c.mp (Nat.le_refl (Vs P k w (h :: t) f))
    have hr := fun s => (rc_c (k := k) (h := h) (t := t) (s := s)).2.1
    rw [Vs_c]
    refine ⟨Nat.le_trans (Vs_mono (fun p hp => Dm_le (hd p hp) (hr (0, true)))) hv.1, fun p hp hq => ?_⟩
    have h1 := hv.2 p hp (Dm_pf (hd p hp) hq)
    have h2 : Vs P k w t (pu f' p (pp (f' p) (k h))) ≤ Vs P k w t (pu f p (pp (f p) (k h))) := by
      refine Vs_mono (fun r hr' => ?_)
      simp only [pu]
      by_cases e : r = p
      · rw [if_pos e, if_pos e]
        exact Dm_pp (hd p hp)
      · rw [if_neg e, if_neg e]
        exact Dm_le (hd r hr') (hr (0, true))
    omega
def sx (p q : Nat) (r : Nat) : Nat := if r = p then q else if r = q then p else r
theorem sx_sx (p q r : Nat) : sx p q (sx p q r) = r := by
  simp only [sx]
  by_cases h1 : r = p
  · subst h1
    simp
  · by_cases h2 : r = q
    · subst h2
      simp [h1]
    · simp [h1, h2]
theorem sx_lt {p q r P : Nat} (hp : p < P) (hq : q < P) (hr : r < P) : sx p q r < P := by
  simp only [sx]
  split
  · exact hq
  · split
    · exact hp
    · exact hr
theorem Vs_swap {P p q : Nat} {k w : Nat → Nat} (hp : p < P) (hq : q < P) : ∀ {L : List Nat} {f : Pls}, Vs P k w L (fun r => f (sx p q r)) ≤ Vs P k w L f
  | [], _ => Nat.le_refl _
  | h :: t, f => by
    have hv := Vs_c.mp (Nat.le_refl (Vs P k w (h :: t) f))
    rw [Vs_c]
    refine ⟨Nat.le_trans (Vs_swap hp hq) hv.1, fun r hr hf => ?_⟩
    have h1 := hv.2 (sx p q r) (sx_lt hp hq hr) hf
    have e : pu (fun r => f (sx p q r)) r (pp (f (sx p q r)) (k h)) = fun r' => pu f (sx p q r) (pp (f (sx p q r)) (k h)) (sx p q r') := by
      funext r'
      simp only [pu]
      by_cases z : r' = r
      · rw [if_pos z, z, if_pos rfl]
      · rw [if_neg z, if_neg]
        intro z2
        have := congrArg (sx p q) z2
        rw [sx_sx, sx_sx] at this
        exact z this
    rw [e]
    have h2 := Vs_swap (L := t) (k := k) (w := w) hp hq (f := pu f (sx p q r) (pp (f (sx p q r)) (k h)))
    omega
/-- what goes in here goes in as well there -/
theorem twin {P p q h : Nat} {k w : Nat → Nat} {t : List Nat} {f : Pls} (hp : p < P) (hq : q < P) (hpq : q ≠ p) (ht : ((rc k (h :: t) : Int) ≤ (f q).1 ∧ (rc k (h :: t) : Int) ≤ (f p).1) ∨ f q = f p) (hf : pf (f p) (k h)) : pf (f q) (k h) ∧ Vs P k w t (pu f p (pp (f p) (k h))) ≤ Vs P k w t (pu f q (pp (f q) (k h))) := by
  have d1 : Dm (rc k (h :: t)) (f q) (f p) := by
    rcases ht with z | z
    · exact Or.inr z.1
    · exact Or.inl z
  have d2 : Dm (rc k (h :: t)) (f p) (f q) := by
    rcases ht with z | z
    · exact Or.inr z.2
    · exact Or.inl z.symm
  refine ⟨Dm_pf d1 hf, ?_⟩
  refine Nat.le_trans (Vs_mono (f := fun r => pu f q (pp (f q) (k h)) (sx p q r)) (fun r hr => ?_)) (Vs_swap hp hq)
  have hrr := (rc_c (k := k) (h := h) (t := t) (s := (0, true))).2.1
  show Dm (rc k t) (pu f q (pp (f q) (k h)) (sx p q r)) (pu f p (pp (f p) (k h)) r)
  by_cases e1 : r = p
  · rw [show sx p q r = q by rw [sx, if_pos e1], pu, pu, if_pos rfl, if_pos e1]
    exact Dm_pp d1
  · by_cases e2 : r = q
    · rw [show sx p q r = p by rw [sx, if_neg e1, if_pos e2], pu, pu, if_neg (fun z => hpq z.symm), if_neg e1, e2]
      exact Dm_le d2 hrr
    · rw [show sx p q r = r by rw [sx, if_neg e1, if_neg e2], pu, pu, if_neg e2, if_neg e1]
      exact Or.inl rfl
