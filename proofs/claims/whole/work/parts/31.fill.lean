theorem ct_ex {p : Nat → Bool} : ∀ {n : Nat}, 0 < ct p n → ∃ j, j < n ∧ p j = true
  | 0, h => absurd h (Nat.lt_irrefl 0)
  | n + 1, h => by
    by_cases q : p n = true
    · exact ⟨n, by omega, q⟩
    · rw [ct, if_neg q] at h
      obtain ⟨j, h1, h2⟩ := ct_ex (n := n) (by omega)
      exact ⟨j, by omega, h2⟩
theorem ct_one {p : Nat → Bool} : ∀ {n : Nat}, (∀ i j, i < n → j < n → p i = true → p j = true → i = j) → ct p n ≤ 1
  | 0, _ => by simp [ct]
  | n + 1, h => by
    have ih := ct_one (p := p) (n := n) (fun i j hi hj => h i j (by omega) (by omega))
    rw [ct]
    by_cases q : p n = true
    · rw [if_pos q]
      have : ct p n = 0 := by
        by_cases z : 0 < ct p n
        · obtain ⟨j, h1, h2⟩ := ct_ex z
          have := h j n (by omega) (by omega) h2 q
          omega
        · omega
      omega
    · rw [if_neg q]
      omega
theorem sm_cong {f f' : Nat → Nat} : ∀ {n : Nat}, (∀ k, k < n → f k = f' k) → sm f n = sm f' n
  | 0, _ => rfl
  | n + 1, h => by rw [sm, sm, sm_cong (fun k hk => h k (by omega)), h n (by omega)]
theorem sm_one {f F : Nat → Nat} {d : Nat} : ∀ {n : Nat}, sm (fun k => (f k + (if d = k then 1 else 0)) * F k) n = sm (fun k => f k * F k) n + (if d < n then F d else 0)
  | 0 => by simp [sm]
  | n + 1 => by
    rw [sm, sm, sm_one (n := n)]
    by_cases q : d = n
    · subst q
      simp [Nat.add_mul]
      omega
    · by_cases q2 : d < n
      · simp [q, q2, show d < n + 1 by omega]
        omega
      · simp [q, q2, show ¬ d < n + 1 by omega]
theorem sm_swap {c : Nat → Bool} {d F : Nat → Nat} {n : Nat} : ∀ {N : Nat}, (∀ j, j < N → c j = true → d j < n) → sm (fun j => if c j = true then F (d j) else 0) N = sm (fun k => ct (fun j => c j && d j == k) N * F k) n
  | 0, _ => by
    rw [sm]
    have : ∀ n, sm (fun k => ct (fun j => c j && d j == k) 0 * F k) n = 0 := by
      intro n
      induction n with
      | zero => rfl
      | succ n ih => rw [sm, ih]; simp [ct]
    rw [this]
  | N + 1, h => by
    rw [sm, sm_swap (N := N) (fun j hj => h j (by omega))]
    by_cases q : c N = true
    · have hd := h N (by omega) q
      have e : sm (fun k => ct (fun j => c j && d j == k) (N + 1) * F k) n = sm (fun k => (ct (fun j => c j && d j == k) N + (if d N = k then 1 else 0)) * F k) n := by
        refine sm_cong (fun k _ => ?_)
        rw [ct]
        simp [q]
      rw [e, sm_one, if_pos hd, if_pos q]
    · have e : sm (fun k => ct (fun j => c j && d j == k) (N + 1) * F k) n = sm (fun k => ct (fun j => c j && d j == k) N * F k) n := by
        refine sm_cong (fun k _ => ?_)
        rw [ct]
        simp [q]
      rw [e, if_neg q]
      omega
theorem sm_full {e : Nat → Nat} : ∀ {n : Nat}, (∀ k, k < n → e k ≤ 1) → sm e n ≤ n ∧ (n ≤ sm e n → ∀ k, k < n → e k = 1)
  | 0, _ => ⟨by simp [sm], fun _ k hk => absurd hk (by omega)⟩
  | n + 1, h => by
    obtain ⟨h1, h2⟩ := sm_full (e := e) (n := n) (fun k hk => h k (by omega))
    have h3 := h n (by omega)
    refine ⟨by rw [sm]; omega, fun h4 k hk => ?_⟩
    rw [sm] at h4
    by_cases q : k = n
    · subst q
      omega
    · exact h2 (by omega) k (by omega)
theorem sm_ct {c : Nat → Bool} : ∀ N, sm (fun j => if c j = true then 1 else 0) N = ct c N
  | 0 => rfl
  | N + 1 => by rw [sm, ct, sm_ct N]
/-- depths that fill [0, n) without a gap -/
theorem fill {c : Nat → Bool} {d : Nat → Nat} {N : Nat} (hb : ∀ j, j < N → c j = true → d j < ct c N) (hi : ∀ i j, i < N → j < N → c i = true → c j = true → d i = d j → i = j) :
    (∀ k, k < ct c N → ∃ j, j < N ∧ c j = true ∧ d j = k) ∧ ∀ F : Nat → Nat, sm (fun j => if c j = true then F (d j) else 0) N = sm F (ct c N) := by
  have h1 : ∀ k, k < ct c N → ct (fun j => c j && d j == k) N ≤ 1 := by
    intro k _
    refine ct_one (fun i j h1 h2 h3 h4 => ?_)
    simp only [Bool.and_eq_true, beq_iff_eq] at h3 h4
    exact hi i j h1 h2 h3.1 h4.1 (by omega)
  have h2 : sm (fun k => ct (fun j => c j && d j == k) N) (ct c N) = ct c N := by
    have := sm_swap (c := c) (d := d) (F := fun _ => 1) (n := ct c N) (N := N) hb
    rw [sm_ct] at this
    exact Eq.trans (sm_cong (fun k _ => (Nat.mul_one _).symm)) this.symm
  have h3 := (sm_full h1).2 (by omega)
  refine ⟨fun k hk => ?_, fun F => ?_⟩
  · have := h3 k hk
    obtain ⟨j, q1, q2⟩ := ct_ex (p := fun j => c j && d j == k) (n := N) (by omega)
    simp only [Bool.and_eq_true, beq_iff_eq] at q2
    exact ⟨j, q1, q2.1, q2.2⟩
  · rw [sm_swap hb]
    exact sm_cong (fun k hk => by rw [h3 k hk]; simp)
theorem Wf.un {g : Gn} (h : Wf g) : Un g := h.2.2
/-- at every depth below its height a plot has an hour -/
theorem fd_ex {g : Gn} (hw : Wf g) {p k : Nat} (hp : p < 9) (hk : k < ht g p) : fd g p k < 7 := by
  have hf := (fill (c := fun j => g 4 j == p) (d := g 5) (N := 7) (fun j hj hc => by
    simp only [beq_iff_eq] at hc
    have := hw.2.1 j hj (by omega)
    rw [hc] at this
    exact this) (fun i j hi hj h1 h2 h3 => by
    simp only [beq_iff_eq] at h1 h2
    exact hw.2.2 i j hi hj (by omega) (by omega) h3)).1 k hk
  obtain ⟨j, h1, h2, h3⟩ := hf
  simp only [beq_iff_eq] at h2
  have h4 : fd g p k = j := by
    refine fs1_at (by simp [h2, h3]) (fun i hi => ?_) h1
    by_cases q : (g 4 i == p && g 5 i == k) = true
    · simp only [Bool.and_eq_true, beq_iff_eq] at q
      exact absurd (hw.2.2 i j (by omega) h1 (by omega) (by omega) (by omega)) (by omega)
    · simpa using q
  omega
theorem fd_own {g : Gn} (hw : Wf g) {j : Nat} (hj : j < 7) (h9 : g 4 j ≠ 9) : fd g (g 4 j) (g 5 j) = j := by
  refine fs1_at (by simp) (fun i hi => ?_) hj
  by_cases q : (g 4 i == g 4 j && g 5 i == g 5 j) = true
  · simp only [Bool.and_eq_true, beq_iff_eq] at q
    exact absurd (hw.2.2 i j (by omega) hj (by omega) q.1 q.2) (by omega)
  · simpa using q
/-- what all need in a plot, from the bottom up -/
def usM (g : Gn) (p n : Nat) : Nat := sm (fun k => nd (if k = 0 then 9 else g 2 (fd g p (k - 1))) (g 2 (fd g p k))) n
theorem us_usM {g : Gn} (hw : Wf g) {p : Nat} (hp : p < 9) : us g p = usM g p (ht g p) := by
  have hf := (fill (c := fun j => g 4 j == p) (d := g 5) (N := 7) (fun j hj hc => by
    simp only [beq_iff_eq] at hc
    have := hw.2.1 j hj (by omega)
    rw [hc] at this
    exact this) (fun i j hi hj h1 h2 h3 => by
    simp only [beq_iff_eq] at h1 h2
    exact hw.2.2 i j hi hj (by omega) (by omega) h3)).2 (fun k => nd (if k = 0 then 9 else g 2 (fd g p (k - 1))) (g 2 (fd g p k)))
  rw [usM, ht, ← hf, us]
  refine sm_cong (fun j hj => ?_)
  by_cases q : g 4 j = p
  · have h9 : g 4 j ≠ 9 := by omega
    have ho := fd_own hw hj h9
    have hb := hw.2.1 j hj h9
    rw [if_pos q, if_pos (by simp [q])]
    rw [q] at ho hb
    rw [ho, bk, q]
    by_cases h0 : g 5 j = 0
    · rw [if_pos h0, if_pos h0]
    · have hx := fd_ex hw hp (k := g 5 j - 1) (by omega)
      rw [if_neg h0, if_neg h0, if_neg (by omega)]
  · rw [if_neg q, if_neg (by simp [q])]
section MMb
variable {m : Nat → Nat → Int32} {l : Nat → Nat → Int64} {g : Gn}
theorem m_allNeeds {t : Nat} {f : Int32} (htf : (t = 95 ∧ f = 0) ∨ (t = 96 ∧ f = 1)) (htl : MT t m g) (hs : MS m g) (hw : Wf g) {p : Nat} (hp : p < 9) : fX7_allNeeds 93 (nI p) f (Mk m l) = some (nI (us g p), Mk m l) := by
  have hb := hw.1
  have h7 := ht_le g p
  rw [fX7_allNeeds, grd_t M_o, us_usM hw hp]
  refine lpR (fun n j (s : Int32 × Int32) => fX7_allNeeds_9 n 93 (nI p) f s.1 s.2 (nI j) (Mk m l)) (fun j s => s.1 = nI (usM g p j) ∧ (s.2 = 2 ↔ (if j = 0 then 9 else g 2 (fd g p (j - 1))) = 2)) (fun o => o = some (nI (usM g p (ht g p)), Mk m l)) (ht g p) ?_ ?_ FU 0 (0, -4) (by omega) (by have := FU_big; omega) ⟨rfl, by simp⟩
  · intro n j s hj hI
    left
    obtain ⟨h1, h2⟩ := hI
    have hx := fd_ex hw hp hj
    have hk4 := (hb.2.2.2.2 _ hx).1
    refine ⟨(nI (usM g p (j + 1)), nI (g 2 (fd g p j))), ⟨rfl, ?_⟩, ?_⟩
    · rw [show (2 : Int32) = nI 2 from rfl, nI_inj (by omega) (by omega)]
      simp
    · rw [fX7_allNeeds_9, m_manyIn hs hb hp, Option.bind_some, if_neg (nI_ge hj (by omega)), m_lying hs hb hw.un hp (by omega), Option.bind_some, m_kindOf htf htl (by omega), Option.bind_some, if_neg (by omega), m_needs hk4 h2, Option.bind_some, h1, nI_add, nI_1]
      rfl
  · intro n s hI
    rw [fX7_allNeeds_9, m_manyIn hs hb hp, Option.bind_some, if_pos (nI_le (Nat.le_refl _) (by omega)), hI.1]
theorem m_isFit {t : Nat} {f : Int32} (htf : (t = 95 ∧ f = 0) ∨ (t = 96 ∧ f = 1)) (htl : MT t m g) (hs : MS m g) (hw : Wf g) {k p : Nat} (hk : k < 4) (hp : p < g 0 0) : fX7_isFit 93 (nI k) (nI p) f (Mk m l) = some (if fit g k p then 1 else 0, Mk m l) := by
  have hb := hw.1
  have h5 := hb.1
  rw [fX7_isFit, grd_t M_o, m_topOf hs hb hw.un (by omega), Option.bind_some, m_kindOf htf htl (tp_le g p), Option.bind_some]
  have e : (if tp g p = 7 then (-4 : Int32) else nI (g 2 (tp g p))) = kmI (tk g p) := by
    rw [tk]
    by_cases q : tp g p = 7
    · rw [if_pos q, if_pos q]
      rfl
    · have := (hb.2.2.2.2 _ (tp_is q).2.1).1
      rw [if_neg q, if_neg q, kmI, if_neg (by omega)]
  have hle := tk_le hb p
  have h3 : kmI (tk g p) = 3 ↔ tk g p = 3 := by
    rw [kmI]
    split
    · rename_i q
      rw [q]
      decide
    · rw [show (3 : Int32) = nI 3 from rfl]
      exact nI_inj (by omega) (by omega)
  have h2 : kmI (tk g p) = 2 ↔ tk g p = 2 := by
    rw [kmI]
    split
    · rename_i q
      rw [q]
      decide
    · rw [show (2 : Int32) = nI 2 from rfl]
      exact nI_inj (by omega) (by omega)
  rw [e]
  by_cases q3 : tk g p = 3
  · rw [if_pos (h3.mpr q3), show fit g k p = false by simp [fit, q3]]
    rfl
  · have hu := us_le g p
    have hn := nd_le (tk g p) k
    have hr := hb.2.2.2.1 p hp
    rw [if_neg (fun z => q3 (h3.mp z)), m_allNeeds htf htl hs hw (by omega), Option.bind_some, m_needs hk h2, Option.bind_some, M_r4, Option.bind_some, ad2, a97 (by omega), Option.bind_some, hs.2.2.1 p hp, nI_add]
    by_cases q : g 1 p < us g p + nd (tk g p) k
    · rw [if_pos (nI_lt q (by omega)), show fit g k p = false by
        simp only [fit, Bool.and_eq_false_iff, decide_eq_false_iff_not]
        right
        omega]
      rfl
    · rw [if_neg (nI_nlt (by omega) (by omega)), show fit g k p = true by
        simp only [fit, Bool.and_eq_true, decide_eq_true_eq]
        exact ⟨by simp [q3], by omega⟩]
      rfl
end MMb
