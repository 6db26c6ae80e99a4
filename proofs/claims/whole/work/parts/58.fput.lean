/-! a green's plots, as the search sees them -/
def f0 (g : Gn) : Pls := fun p => if p < g 0 0 then (if tk g p = 3 then -1 else (g 1 p : Int) - (us g p : Nat), tk g p == 2) else (0, false)
theorem nd_b {b b' k : Nat} (h : b = 2 ↔ b' = 2) : nd b k = nd b' k := by
  rw [nd, nd]
  by_cases q : b = 2
  · rw [if_pos q, if_pos (h.mp q)]
  · rw [if_neg q, if_neg (fun z => q (h.mpr z))]
theorem pn_f0 {g : Gn} {p k : Nat} (hp : p < g 0 0) : pn (f0 g p) k = nd (tk g p) k := by
  rw [pn, f0, if_pos hp]
  refine nd_b ?_
  by_cases q : tk g p = 2
  · simp [q]
  · simp [q]
theorem f0_fit {g : Gn} {p k : Nat} (hp : p < g 0 0) : pf (f0 g p) k ↔ fit g k p = true := by
  rw [pf, pn_f0 hp, f0, if_pos hp, fit]
  simp only [Bool.and_eq_true, decide_eq_true_eq, Bool.not_eq_true', beq_eq_false_iff_ne]
  by_cases q : tk g p = 3
  · rw [if_pos q]
    constructor
    · intro h
      exact absurd h (by omega)
    · intro h
      exact absurd q h.1
  · rw [if_neg q]
    constructor
    · intro h
      exact ⟨q, by omega⟩
    · intro h
      have := h.2
      omega
section FPa
variable {g : Gn} {h p : Nat}
theorem ht_put (h7 : h < 7) (h9 : g 4 h = 9) (hp : p < 9) : ht (put g h p) p = ht g p + 1 := by
  have := ht_set (g := g) (g' := put g h p) (x := p) h7 (fun i _ => put_4) p
  rw [if_neg (show ¬ g 4 h = p by omega), if_pos rfl] at this
  omega
theorem ht_putn (h7 : h < 7) (h9 : g 4 h = 9) {q : Nat} (hq : q < 9) (hqp : q ≠ p) : ht (put g h p) q = ht g q := by
  have := ht_set (g := g) (g' := put g h p) (x := p) h7 (fun i _ => put_4) q
  rw [if_neg (show ¬ g 4 h = q by omega), if_neg (fun z => hqp z.symm)] at this
  omega
theorem fd_put (h9 : g 4 h = 9) (hp : p < 9) {d : Nat} (hd : d < ht g p) : fd (put g h p) p d = fd g p d := by
  refine fs1_cong (fun j _ => ?_)
  rw [put_4, put_5]
  by_cases q : j = h
  · rw [if_pos q, if_pos q, q, h9]
    rw [show (9 == p) = false by simp; omega, show (ht g p == d) = false by simp; omega]
    simp
  · rw [if_neg q, if_neg q]
theorem fd_putn (h9 : g 4 h = 9) {q d : Nat} (hq : q < 9) (hqp : q ≠ p) : fd (put g h p) q d = fd g q d := by
  refine fs1_cong (fun j _ => ?_)
  rw [put_4, put_5]
  by_cases z : j = h
  · rw [if_pos z, if_pos z, z, h9]
    rw [show (9 == q) = false by simp; omega, show (p == q) = false by simp; omega]
    simp
  · rw [if_neg z, if_neg z]
theorem fd_puth (hw : Wf g) (h7 : h < 7) (h9 : g 4 h = 9) (hp : p < 9) : fd (put g h p) p (ht g p) = h := by
  refine fs1_at (by rw [put_4, put_5]; simp) (fun j hj => ?_) h7
  rw [put_4, put_5, if_neg (by omega), if_neg (by omega)]
  by_cases q : g 4 j = p
  · have := hw.2.1 j (by omega) (by omega)
    rw [q] at this
    rw [show (g 5 j == ht g p) = false by simp; omega]
    simp
  · simp [q]
theorem tk_put (hw : Wf g) (h7 : h < 7) (h9 : g 4 h = 9) (hp : p < 9) : tk (put g h p) p = g 2 h := by
  have e : tp (put g h p) p = h := by
    rw [tp, ht_put h7 h9 hp, if_neg (by omega), Nat.add_sub_cancel, fd_puth hw h7 h9 hp]
  rw [tk, e, if_neg (by omega), put_c (by decide) (by decide)]
theorem tk_putn (h7 : h < 7) (h9 : g 4 h = 9) {q : Nat} (hq : q < 9) (hqp : q ≠ p) : tk (put g h p) q = tk g q := by
  have e : tp (put g h p) q = tp g q := by
    rw [tp, tp, ht_putn h7 h9 hq hqp, fd_putn h9 hq hqp]
  rw [tk, tk, e, put_c (by decide) (by decide)]
theorem us_put (hw : Wf g) (hh : h < g 0 1) (hp : p < g 0 0) (h9 : g 4 h = 9) : us (put g h p) p = us g p + nd (tk g p) (g 2 h) := by
  have h5 := hw.1.1
  have hN := hw.1.2.1
  have h7 : h < 7 := by omega
  have hp9 : p < 9 := by omega
  rw [us_usM (Wf_put hw hh hp h9) hp9, us_usM hw hp9, ht_put h7 h9 hp9, usM, sm, fd_puth hw h7 h9 hp9]
  have e1 : sm (fun k => nd (if k = 0 then 9 else put g h p 2 (fd (put g h p) p (k - 1))) (put g h p 2 (fd (put g h p) p k))) (ht g p) = usM g p (ht g p) := by
    refine sm_cong (fun k hk => ?_)
    rw [fd_put h9 hp9 hk, put_c (by decide) (by decide), put_c (by decide) (by decide)]
    by_cases q : k = 0
    · rw [if_pos q, if_pos q]
    · rw [if_neg q, if_neg q, fd_put h9 hp9 (by omega)]
  have e2 : (if ht g p = 0 then 9 else put g h p 2 (fd (put g h p) p (ht g p - 1))) = tk g p := by
    by_cases q : ht g p = 0
    · rw [if_pos q, tk, tp, if_pos q, if_pos rfl]
    · have := fd_ex hw hp9 (k := ht g p - 1) (by omega)
      rw [if_neg q, fd_put h9 hp9 (by omega), put_c (by decide) (by decide), tk, tp, if_neg q, if_neg (by omega)]
  rw [e1, e2, put_c (by decide) (by decide)]
theorem us_putn (hw : Wf g) (hh : h < g 0 1) (hp : p < g 0 0) (h9 : g 4 h = 9) {q : Nat} (hq : q < 9) (hqp : q ≠ p) : us (put g h p) q = us g q := by
  have hN := hw.1.2.1
  have h7 : h < 7 := by omega
  rw [us_usM (Wf_put hw hh hp h9) hq, us_usM hw hq, ht_putn h7 h9 hq hqp, usM, usM]
  refine sm_cong (fun k hk => ?_)
  rw [fd_putn h9 hq hqp, fd_putn h9 hq hqp, put_c (by decide) (by decide), put_c (by decide) (by decide)]
theorem f0_put (hw : Wf g) (hh : h < g 0 1) (hp : p < g 0 0) (h9 : g 4 h = 9) (hf : fit g (g 2 h) p = true) : f0 (put g h p) = pu (f0 g) p (pp (f0 g p) (g 2 h)) := by
  have h5 := hw.1.1
  have hN := hw.1.2.1
  have h3 : tk g p ≠ 3 := by
    intro q
    rw [fit, q] at hf
    simp at hf
  have hc : ∀ c i, c ≠ 4 → c ≠ 5 → put g h p c i = g c i := fun c i q1 q2 => put_c q1 q2
  funext q
  rw [pu]
  by_cases e : q = p
  · subst e
    rw [if_pos rfl, pp, pn_f0 hp, f0, hc 0 0 (by decide) (by decide), if_pos hp, tk_put hw (by omega) h9 (by omega), us_put hw hh hp h9, hc 1 q (by decide) (by decide), f0, if_pos hp, if_neg h3]
    by_cases z : g 2 h = 3
    · rw [if_pos z, if_pos z]
    · rw [if_neg z, if_neg z]
      congr 1
      omega
  · rw [if_neg e, f0, f0, hc 0 0 (by decide) (by decide)]
    by_cases z : q < g 0 0
    · rw [if_pos z, if_pos z, tk_putn (by omega) h9 (by omega) e, us_putn hw hh hp h9 (by omega) e, hc 1 q (by decide) (by decide)]
    · rw [if_neg z, if_neg z]
theorem MS_of {m : Nat → Nat → Int32} {g g' : Gn} (hs : MS m g') (e0 : ∀ k, g' 0 k = g 0 k) (e1 : ∀ p, g' 1 p = g 1 p) (e4 : ∀ i, i < 7 → g' 4 i = g 4 i ∧ (g 4 i ≠ 9 → g' 5 i = g 5 i)) : MS m g := by
  refine ⟨by rw [← e0]; exact hs.1, by rw [← e0]; exact hs.2.1, fun p hp => by rw [← e1]; exact hs.2.2.1 p (by rw [e0]; exact hp), fun i hi => ?_⟩
  have h1 := hs.2.2.2 i hi
  have h2 := e4 i hi
  rw [h2.1] at h1
  exact ⟨h1.1, fun q => by rw [← h2.2 q]; exact h1.2 q⟩
/-- put in and taken out again -/
theorem MS_back {m : Nat → Nat → Int32} (hw : Wf g) (h7 : h < 7) (h9 : g 4 h = 9) (hp : p < 9) (hs : MS m (take (put g h p) h)) : MS m g := by
  refine MS_of hs (fun k => by rw [take_c (by decide) (by decide), put_c (by decide) (by decide)]) (fun k => by rw [take_c (by decide) (by decide), put_c (by decide) (by decide)]) (fun i hi => ?_)
  rw [take_4, take_5 hi]
  by_cases q : i = h
  · rw [if_pos q, q, h9]
    exact ⟨rfl, fun z => absurd rfl z⟩
  · have ha : ¬ ab (put g h p) h i = true := by
      intro z
      rw [ab_iff, put_4, put_4, put_5, put_5, if_pos rfl, if_neg q, if_pos rfl, if_neg q] at z
      have := hw.2.1 i hi (by omega)
      rw [z.2.1] at this
      omega
    rw [if_neg q, if_neg ha, put_4, if_neg q, put_5, if_neg q]
    exact ⟨rfl, fun _ => rfl⟩
end FPa
