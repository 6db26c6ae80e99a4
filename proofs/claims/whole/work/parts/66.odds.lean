/-! how likely one lies still -/
def lz (k : Nat) : Bool := k == 0 || k == 2
def Nl (g : Gn) (h : Nat) : Prop := g 4 h ≠ 9 ∧ ∃ i, i < 7 ∧ (i = h ∨ ab g h i = true) ∧ lz (g 2 i) = false
def Al (g : Gn) (h u : Nat) : Prop := g 4 h ≠ 9 ∧ ct (ab g h) 7 = u ∧ ∀ i, i < 7 → (i = h ∨ ab g h i = true) → lz (g 2 i) = true
theorem yb_4 {b : Bool} {g : Gn} {i : Nat} : yb b g 4 i = if b = true ∧ th g = true ∧ i = tp g (g 0 2 % g 0 0) then 9 else g 4 i := by
  cases b with
  | false => rw [yb, if_neg (by decide), m2_ne (by decide), if_neg (by simp)]
  | true =>
    rw [yb, if_pos rfl, y1_4]
    simp
theorem yb_c {b : Bool} {g : Gn} {c i : Nat} (h4 : c ≠ 4) (h0 : c ≠ 0) : yb b g c i = g c i := by
  cases b with
  | false => rw [yb, if_neg (by decide), m2_ne h0]
  | true => rw [yb, if_pos rfl, y1_c h4 h0]
theorem yb_y {b : Bool} {g : Gn} : yb b g 0 2 = g 0 2 + 1 := by
  cases b with
  | false => rw [yb, if_neg (by decide), m2_at]
  | true => rw [yb, if_pos rfl, y1_y]
theorem th_is {g : Gn} (h : th g = true) : tp g (g 0 2 % g 0 0) ≠ 7 ∧ lz (g 2 (tp g (g 0 2 % g 0 0))) = true := by
  simp only [th, Bool.and_eq_true, Bool.not_eq_true', beq_eq_false_iff_ne] at h
  exact ⟨h.1, h.2⟩
theorem th_of {g : Gn} (h1 : tp g (g 0 2 % g 0 0) ≠ 7) (h2 : lz (g 2 (tp g (g 0 2 % g 0 0))) = true) : th g = true := by
  simp only [th, Bool.and_eq_true, Bool.not_eq_true', beq_eq_false_iff_ne]
  exact ⟨h1, h2⟩
section ODa
variable {g : Gn} {h u : Nat} {b : Bool}
theorem yb_9 (h9 : g 4 h = 9) : yb b g 4 h = 9 := by
  rw [yb_4]
  split
  · rfl
  · exact h9
theorem yb_Nl (hw : Wf g) (hP : 0 < g 0 0) (h7 : h < 7) (hn : Nl g h) : Nl (yb b g) h := by
  obtain ⟨h1, i, hi, h2, h3⟩ := hn
  have hpm : g 0 2 % g 0 0 < g 0 0 := Nat.mod_lt _ hP
  have hP5 := hw.1.1
  have e1 : yb b g 4 h = g 4 h := by
    rw [yb_4, if_neg]
    rintro ⟨_, q2, q3⟩
    have q := th_is q2
    rcases h2 with e | e
    · subst e
      rw [q3, q.2] at h3
      exact absurd h3 (by decide)
    · have := ab_top hw (show g 0 2 % g 0 0 < 9 by omega) q.1 hi
      rw [← q3, e] at this
      exact absurd this (by decide)
  have e2 : yb b g 4 i = g 4 i := by
    rw [yb_4, if_neg]
    rintro ⟨_, q2, q3⟩
    have q := th_is q2
    rw [q3, q.2] at h3
    exact absurd h3 (by decide)
  refine ⟨by rw [e1]; exact h1, i, hi, ?_, by rw [yb_c (by decide) (by decide)]; exact h3⟩
  rcases h2 with e | e
  · exact Or.inl e
  · right
    rw [ab_iff] at e ⊢
    rw [e1, e2, yb_c (by decide) (by decide), yb_c (by decide) (by decide)]
    exact e
/-- no rabbits there: all stays -/
theorem yb_Al0 (hw : Wf g) (hP : 0 < g 0 0) (h7 : h < 7) (ha : Al g h u) (hv : b = false ∨ g 0 2 % g 0 0 ≠ g 4 h) : Al (yb b g) h u ∧ yb b g 4 h = g 4 h := by
  obtain ⟨h1, h2, h3⟩ := ha
  have hpm : g 0 2 % g 0 0 < g 0 0 := Nat.mod_lt _ hP
  have hk : ∀ i, i < 7 → (b = true ∧ th g = true ∧ i = tp g (g 0 2 % g 0 0)) → g 4 i ≠ g 4 h := by
    rintro i hi ⟨q1, q2, q3⟩ e
    have q := (tp_is (th_is q2).1).2.2.1
    rw [← q3, e] at q
    rcases hv with z | z
    · rw [z] at q1
      exact absurd q1 (by decide)
    · exact z q.symm
  have e1 : yb b g 4 h = g 4 h := by
    rw [yb_4, if_neg]
    intro q
    exact hk h h7 q rfl
  have eab : ∀ i, i < 7 → ab (yb b g) h i = ab g h i := by
    intro i hi
    by_cases q : b = true ∧ th g = true ∧ i = tp g (g 0 2 % g 0 0)
    · have n1 : ¬ ab g h i = true := fun e => hk i hi q (ab_iff.mp e).2.1
      have n2 : ¬ ab (yb b g) h i = true := by
        intro e
        have e' := (ab_iff.mp e).2.1
        rw [e1, yb_4, if_pos q] at e'
        exact h1 e'.symm
      simp only [Bool.not_eq_true] at n1 n2
      rw [n1, n2]
    · simp only [ab, e1, yb_c (b := b) (g := g) (c := 5) (by decide) (by decide)]
      rw [yb_4, if_neg q]
  refine ⟨⟨by rw [e1]; exact h1, by rw [ct_cong eab]; exact h2, fun i hi z => ?_⟩, e1⟩
  rw [yb_c (by decide) (by decide)]
  exact h3 i hi (by rw [eab i hi] at z; exact z)
/-- rabbits there: the top goes -/
theorem yb_Al1 (hw : Wf g) (hP : 0 < g 0 0) (h7 : h < 7) (ha : Al g h u) (hv : g 0 2 % g 0 0 = g 4 h) : (u = 0 → yb true g 4 h = 9) ∧ (u ≠ 0 → Al (yb true g) h (u - 1) ∧ yb true g 4 h = g 4 h) := by
  obtain ⟨h1, h2, h3⟩ := ha
  have hP5 := hw.1.1
  have hp9 : g 4 h < 9 := by
    have := (hw.1.2.2.2.2 h h7).2.2
    omega
  have hd := hw.2.1 h h7 h1
  have hf := fd_ex hw hp9 (k := ht g (g 4 h) - 1) (by omega)
  have et : tp g (g 0 2 % g 0 0) = fd g (g 4 h) (ht g (g 4 h) - 1) := by rw [hv, tp, if_neg (by omega)]
  have t7 : tp g (g 0 2 % g 0 0) ≠ 7 := by rw [et]; omega
  have ti := tp_is t7
  rw [hv] at ti
  rw [hv] at et
  obtain ⟨t, htt⟩ : ∃ t, t = tp g (g 4 h) := ⟨_, rfl⟩
  rw [← htt] at ti
  have hth : t = h ∨ ab g h t = true := by
    by_cases q : t = h
    · exact Or.inl q
    · right
      rw [ab_iff]
      refine ⟨h1, ti.2.2.1, ?_⟩
      by_cases z : g 5 h = g 5 t
      · exact absurd (hw.2.2 h t h7 ti.2.1 h1 ti.2.2.1.symm z).symm q
      · omega
  have hl := h3 t ti.2.1 hth
  have hT : th g = true := th_of t7 (by rw [hv, ← htt]; exact hl)
  have e4 : ∀ i, yb true g 4 i = if i = t then 9 else g 4 i := by
    intro i
    rw [yb_4, hv, ← htt]
    by_cases q : i = t
    · rw [if_pos ⟨rfl, hT, q⟩, if_pos q]
    · rw [if_neg (fun z => q z.2.2), if_neg q]
  by_cases q : t = h
  · have h0 : u = 0 := by
      rw [← h2, ct_cong (q := fun _ => false) (fun i hi => by
        have := ab_top hw hp9 (p := g 4 h) (by rw [← htt]; omega) hi
        rw [← htt, q] at this
        exact this)]
      rfl
    refine ⟨fun _ => by rw [e4, if_pos q.symm], fun z => absurd h0 z⟩
  · have hab : ab g h t = true := hth.resolve_left q
    have hu : 0 < u := by rw [← h2]; exact ct_pos ti.2.1 hab
    have e1 : yb true g 4 h = g 4 h := by rw [e4, if_neg (fun z => q z.symm)]
    refine ⟨fun z => absurd z (by omega), fun _ => ⟨⟨by rw [e1]; exact h1, ?_, fun i hi z => ?_⟩, e1⟩⟩
    · have ec : ct (ab (yb true g) h) 7 = ct (fun i => if i = t then false else ab g h i) 7 := by
        refine ct_cong (fun i hi => ?_)
        by_cases z : i = t
        · rw [if_pos z]
          have : ¬ ab (yb true g) h i = true := by
            intro e
            have e' := (ab_iff.mp e).2.1
            rw [e1, e4, if_pos z] at e'
            exact h1 e'.symm
          simpa using this
        · rw [if_neg z]
          simp only [ab, e1, yb_c (b := true) (g := g) (c := 5) (by decide) (by decide)]
          rw [e4, if_neg z]
      have := ct_upd (ab g h) false ti.2.1
      rw [hab] at this
      rw [ec, ← h2]
      simp only [if_true, Bool.false_eq_true, if_false] at this
      omega
    · rw [yb_c (by decide) (by decide)]
      rcases z with z | z
      · exact h3 i hi (Or.inl z)
      · rw [ab_iff, e1, e4, yb_c (by decide) (by decide), yb_c (by decide) (by decide)] at z
        by_cases y : i = t
        · rw [if_pos y] at z
          exact absurd z.2.1.symm h1
        · rw [if_neg y] at z
          exact h3 i hi (Or.inr (ab_iff.mpr z))
end ODa
/-- in how many of all equal cases t of v have come -/
def cs (x : Nat) : Nat → Nat → Nat
  | 0, t => if t = 0 then 1 else 0
  | v + 1, t => cs x v t * (10 - x) + (if t = 0 then 0 else cs x v (t - 1) * x)
def St (x v u : Nat) : Nat := sm (cs x v) (u + 1)
theorem sm_s (x v : Nat) : ∀ u, sm (cs x (v + 1)) (u + 1) = (10 - x) * sm (cs x v) (u + 1) + x * sm (cs x v) u
  | 0 => by
    simp [sm, cs, Nat.mul_comm]
  | u + 1 => by
    have e1 : sm (cs x (v + 1)) (u + 1 + 1) = sm (cs x (v + 1)) (u + 1) + cs x (v + 1) (u + 1) := rfl
    have e2 : sm (cs x v) (u + 1 + 1) = sm (cs x v) (u + 1) + cs x v (u + 1) := rfl
    have e3 : sm (cs x v) (u + 1) = sm (cs x v) u + cs x v u := rfl
    have e4 : cs x (v + 1) (u + 1) = cs x v (u + 1) * (10 - x) + cs x v u * x := by rw [cs, if_neg (by omega), Nat.add_sub_cancel]
    have e5 : x * sm (cs x v) (u + 1) = x * sm (cs x v) u + cs x v u * x := by rw [e3, Nat.mul_add, Nat.mul_comm x (cs x v u)]
    rw [e1, sm_s x v u, e2, e4, Nat.mul_add (10 - x), Nat.mul_comm (cs x v (u + 1))]
    omega
theorem St_s {x v u : Nat} : St x (v + 1) u = (10 - x) * St x v u + x * (if u = 0 then 0 else St x v (u - 1)) := by
  rw [St, sm_s]
  by_cases q : u = 0
  · rw [if_pos q, q, St, sm]
  · rw [if_neg q, St, St, Nat.sub_add_cancel (by omega)]
theorem St_all {x : Nat} (hx : x ≤ 10) : ∀ {v u : Nat}, v ≤ u → St x v u = 10 ^ v
  | 0, u, _ => by
    have : ∀ u, sm (cs x 0) (u + 1) = 1 := by
      intro u
      induction u with
      | zero => rfl
      | succ u ih => rw [sm, ih, cs, if_neg (by omega)]
    rw [St, this]
  | v + 1, u, h => by
    rw [St_s, if_neg (by omega), St_all hx (v := v) (by omega), St_all hx (v := v) (by omega), ← Nat.add_mul, Nat.sub_add_cancel hx, Nat.pow_succ, Nat.mul_comm]
theorem St_le {x : Nat} (hx : x ≤ 10) : ∀ {v u : Nat}, St x v u ≤ 10 ^ v
  | 0, u => Nat.le_of_eq (St_all hx (Nat.zero_le _))
  | v + 1, u => by
    have h1 := St_le hx (v := v) (u := u)
    have h2 : (if u = 0 then 0 else St x v (u - 1)) ≤ 10 ^ v := by
      split
      · exact Nat.zero_le _
      · exact St_le hx
    rw [St_s]
    have h3 := Nat.mul_le_mul_left (10 - x) h1
    have h4 := Nat.mul_le_mul_left x h2
    have h5 : (10 - x) * 10 ^ v + x * 10 ^ v = 10 ^ (v + 1) := by rw [← Nat.add_mul, Nat.sub_add_cancel hx, Nat.pow_succ, Nat.mul_comm]
    omega
/-- of all ways of n years, by weight, those by which it lies -/
def Aw (x h : Nat) : Nat → Gn → Nat
  | 0, g => if g 4 h = 9 then 0 else 1
  | n + 1, g => x * Aw x h n (yb true g) + (10 - x) * Aw x h n (yb false g)
theorem ct_f (f : Nat → Bool) : ∀ n, ct f (n + 1) = (if f 0 = true then 1 else 0) + ct (fun i => f (i + 1)) n
  | 0 => by rw [ct, ct, ct]; omega
  | n + 1 => by rw [ct, ct_f f n, ct]; omega
/-- how often rabbits come to plot p -/
def vi (P p y n : Nat) : Nat := ct (fun i => (y + i) % P == p) n
theorem vi_s {P p y n : Nat} : vi P p y (n + 1) = (if y % P = p then 1 else 0) + vi P p (y + 1) n := by
  rw [vi, ct_f, vi]
  have e : (fun i => (y + (i + 1)) % P == p) = (fun i => (y + 1 + i) % P == p) := by
    funext i
    rw [show y + (i + 1) = y + 1 + i by omega]
  rw [e, Nat.add_zero]
  by_cases q : y % P = p
  · simp [q]
  · simp [q]
theorem vi_le {P p y n : Nat} : vi P p y n ≤ n := ct_le _ _
theorem Aw_9 {x h : Nat} : ∀ {n : Nat} {g : Gn}, g 4 h = 9 → Aw x h n g = 0
  | 0, g, h9 => by rw [Aw, if_pos h9]
  | n + 1, g, h9 => by rw [Aw, Aw_9 (yb_9 h9), Aw_9 (yb_9 h9), Nat.mul_zero, Nat.mul_zero]
theorem Aw_N {x h : Nat} (hx : x ≤ 10) (h7 : h < 7) : ∀ {n : Nat} {g : Gn}, Wf g → 0 < g 0 0 → g 0 2 + n ≤ 100000 → Nl g h → Aw x h n g = 10 ^ n
  | 0, g, _, _, _, hn => by
    rw [Aw, if_neg hn.1]
  | n + 1, g, hw, hP, hy, hn => by
    have e0 : ∀ b, yb b g 0 0 = g 0 0 := fun b => Sm_yb.1
    have ih := fun b => Aw_N hx h7 (n := n) (Wf_yb (b := b) hw hP (by omega)) (by rw [e0]; exact hP) (by rw [yb_y]; omega) (yb_Nl hw hP h7 hn)
    rw [Aw, ih, ih, ← Nat.add_mul, Nat.add_comm x, Nat.sub_add_cancel hx, Nat.pow_succ, Nat.mul_comm]
theorem Aw_A {x h : Nat} (hx : x ≤ 10) (h7 : h < 7) : ∀ {n u : Nat} {g : Gn}, Wf g → 0 < g 0 0 → g 0 2 + n ≤ 100000 → Al g h u → Aw x h n g = 10 ^ (n - vi (g 0 0) (g 4 h) (g 0 2) n) * St x (vi (g 0 0) (g 4 h) (g 0 2) n) u
  | 0, u, g, _, _, _, ha => by
    rw [Aw, if_neg ha.1, vi, ct, St_all hx (Nat.zero_le _)]
  | n + 1, u, g, hw, hP, hy, ha => by
    have e0 : ∀ b, yb b g 0 0 = g 0 0 := fun b => Sm_yb.1
    have hwb : ∀ b, Wf (yb b g) := fun b => Wf_yb hw hP (by omega)
    have ih := fun b u' (hb : Al (yb b g) h u') => Aw_A hx h7 (n := n) (hwb b) (by rw [e0]; exact hP) (by rw [yb_y]; omega) hb
    have hvl := vi_le (P := g 0 0) (p := g 4 h) (y := g 0 2 + 1) (n := n)
    rw [Aw, vi_s]
    by_cases q : g 0 2 % g 0 0 = g 4 h
    · have a0 := yb_Al0 (b := false) hw hP h7 ha (Or.inl rfl)
      have a1 := yb_Al1 hw hP h7 ha q
      have i0 := ih false u a0.1
      rw [e0, a0.2, yb_y] at i0
      rw [if_pos q, i0, Nat.add_comm 1, St_s, show n + 1 - (vi (g 0 0) (g 4 h) (g 0 2 + 1) n + 1) = n - vi (g 0 0) (g 4 h) (g 0 2 + 1) n by omega]
      by_cases hu : u = 0
      · rw [Aw_9 (a1.1 hu), if_pos hu]
        simp only [Nat.mul_zero, Nat.zero_add, Nat.add_zero]
        rw [Nat.mul_left_comm]
      · have i1 := ih true (u - 1) (a1.2 hu).1
        rw [e0, (a1.2 hu).2, yb_y] at i1
        rw [i1, if_neg hu, Nat.mul_add, Nat.add_comm, Nat.mul_left_comm (10 - x), Nat.mul_left_comm x]
    · have a0 := fun b => yb_Al0 (b := b) hw hP h7 ha (Or.inr q)
      have i0 := fun b => ih b u (a0 b).1
      have i1 : ∀ b, Aw x h n (yb b g) = 10 ^ (n - vi (g 0 0) (g 4 h) (g 0 2 + 1) n) * St x (vi (g 0 0) (g 4 h) (g 0 2 + 1) n) u := by
        intro b
        have := i0 b
        rw [e0, (a0 b).2, yb_y] at this
        exact this
      rw [if_neg q, i1, i1, ← Nat.add_mul, Nat.add_comm x, Nat.sub_add_cancel hx, Nat.zero_add, show n + 1 - vi (g 0 0) (g 4 h) (g 0 2 + 1) n = (n - vi (g 0 0) (g 4 h) (g 0 2 + 1) n) + 1 by omega, Nat.pow_succ, Nat.mul_comm _ 10, Nat.mul_assoc]
/-- one way, by the bits of s -/
def wt (x h : Nat) : Nat → Nat → Gn → Nat
  | 0, _, g => if g 4 h = 9 then 0 else 1
  | n + 1, s, g => (if s % 2 = 1 then x else 10 - x) * wt x h n (s / 2) (yb (s % 2 == 1) g)
theorem sm_2 (f : Nat → Nat) : ∀ m, sm f (2 * m) = sm (fun s => f (2 * s) + f (2 * s + 1)) m
  | 0 => rfl
  | m + 1 => by
    rw [show 2 * (m + 1) = 2 * m + 1 + 1 by omega, sm, sm, sm_2 f m, sm]
    omega
theorem sm_lin (f e : Nat → Nat) (a b : Nat) : ∀ m, sm (fun s => a * f s + b * e s) m = a * sm f m + b * sm e m
  | 0 => by simp [sm]
  | m + 1 => by
    rw [sm, sm_lin f e a b m, sm, sm, Nat.mul_add, Nat.mul_add]
    omega
theorem wt_sm {x h : Nat} : ∀ {n : Nat} {g : Gn}, sm (fun s => wt x h n s g) (2 ^ n) = Aw x h n g
  | 0, g => by
    rw [show 2 ^ 0 = 1 from rfl, sm, sm, wt, Aw, Nat.zero_add]
  | n + 1, g => by
    rw [Nat.pow_succ, Nat.mul_comm, sm_2, Aw, ← wt_sm (n := n) (g := yb true g), ← wt_sm (n := n) (g := yb false g), ← sm_lin]
    refine sm_cong (fun s _ => ?_)
    show wt x h (n + 1) (2 * s) g + wt x h (n + 1) (2 * s + 1) g = x * wt x h n s (yb true g) + (10 - x) * wt x h n s (yb false g)
    have e : ∀ s, wt x h (n + 1) s g = (if s % 2 = 1 then x else 10 - x) * wt x h n (s / 2) (yb (s % 2 == 1) g) := fun _ => rfl
    rw [e, e, show 2 * s % 2 = 0 by omega, show (2 * s + 1) % 2 = 1 by omega, show 2 * s / 2 = s by omega, show (2 * s + 1) / 2 = s by omega, if_neg (show ¬ 0 = 1 by decide), if_pos rfl]
    exact Nat.add_comm _ _
/-! numbers for Euclid's way -/
def fbp : Nat → Nat × Nat
  | 0 => (0, 1)
  | n + 1 => ((fbp n).2, (fbp n).1 + (fbp n).2)
def fb (n : Nat) : Nat := (fbp n).1
theorem fb_s (n : Nat) : fb (n + 2) = fb n + fb (n + 1) := rfl
theorem fb_41 : 100000000 < fb 41 := by decide
