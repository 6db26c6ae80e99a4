/-! every run of calls -/
theorem CI_lo {z : Zt} {m m' : Nat → Nat → Int32} {l : Nat → Nat → Int64} (h : CI z m l) (hf : ∀ c, c < 93 → m' c = m c) : CI z m' l := by
  obtain ⟨h1, h2, h3, h4, h5⟩ := h
  exact ⟨CG_eq h1 (fun c q1 q2 => hf c (by omega)) rfl, Sh_eq isS_p h2 (fun c q1 q2 => hf c (by omega)) (fun _ _ _ => rfl), Sh_eq isS_k h3 (fun c q1 q2 => hf c (by omega)) (fun _ _ _ => rfl), CTx_eq h4 (hf 1 (by decide)) (hf 2 (by decide)), CSi_eq h5 (fun c q1 q2 => hf c (by omega))⟩
theorem MI_hi {z : Zt} {m m' : Nat → Nat → Int32} (h : MI z m) (hf : ∀ c, 93 ≤ c → m' c = m c) : MI z m' := by
  obtain ⟨⟨h1, h1'⟩, h2, h3, h4, h5⟩ := h
  refine ⟨⟨?_, ?_⟩, MRw_eq h2 (by rw [hf 93 (by decide)]) (hf 98 (by decide)), MRw_eq h3 (by rw [hf 93 (by decide)]) (hf 99 (by decide)), ?_, ?_⟩
  · unfold MT
    rw [hf 95 (by decide)]
    exact h1
  · unfold MS
    rw [hf 97 (by decide)]
    exact h1'
  · unfold MTx
    rw [hf 93 (by decide), hf 94 (by decide)]
    exact h4
  · unfold MSi
    rw [hf 93 (by decide), hf 100 (by decide)]
    exact h5
theorem op_step {f6 f7 : Mu → Option (Int32 × Mu)} (h : Op f6 f7) {z : Zt} (hz : Zok z) {m : Nat → Nat → Int32} {l : Nat → Nat → Int64} (hc : CI z m l) (hm : MI z m) : ∃ r m1 l1 m2' z', f6 (Mk m l) = some (r, Mk m1 l1) ∧ f7 (Mk m1 l1) = some (r, Mk m2' l1) ∧ Zok z' ∧ CI z' m2' l1 ∧ MI z' m2' := by
  obtain ⟨r, z', h6, h7, hz'⟩ := h z hz
  obtain ⟨m1, l1, e1, c1, f1⟩ := h6 m l hc
  obtain ⟨m2', e2, c2, f2⟩ := h7 m1 l1 (MI_hi hm f1)
  exact ⟨r, m1, l1, m2', z', e1, e2, hz', CI_lo c1 f2, c2⟩
theorem bind4 {A B C D E : Type} (a : Option (Nat × A)) (b : Nat × A → Option B) (c : B → Option (Nat × C)) (d : Nat × C → Option D) (F : Nat → Nat → D → Option E) : (a.bind fun q1 => (b q1).bind fun q3 => (c q3).bind fun q5 => (d q5).bind fun q7 => F q1.1 q5.1 q7) = (a.bind fun q1 => (b q1).bind fun q3 => (c q3).bind fun q5 => (d q5).bind fun q7 => some (q1.1, q5.1, q7)).bind fun q => F q.1 q.2.1 q.2.2 := by
  cases a with
  | none => rfl
  | some q1 =>
    simp only [Option.bind_some]
    cases b q1 with
    | none => rfl
    | some q3 =>
      simp only [Option.bind_some]
      cases c q3 with
      | none => rfl
      | some q5 =>
        simp only [Option.bind_some]
        cases d q5 with
        | none => rfl
        | some q7 => rfl
theorem law_ini (xs : Nat → Int32) (N : Nat) : fL_law xs N mu0 = ini.bind fun q => fL_law_18 xs N FU q.1 q.2.1 0 q.2.2 := by
  rw [fL_law, ini]
  exact bind4 (nO 6 mu0) (fun q1 => fX6_init q1.1 q1.2) (fun q3 => nO 7 q3) (fun q5 => fX7_init q5.1 q5.2) (fun a b q => fL_law_18 xs N FU a b 0 q)
theorem law_run (xs : Nat → Int32) (N : Nat) (hN : N ≤ 320) {m : Nat → Nat → Int32} {l : Nat → Nat → Int64} {z : Zt} (hz : Zok z) (hc : CI z m l) (hm : MI z m) : ∃ r, fL_law_18 xs N FU 0 93 0 (Mk m l) = some r ∧ r.1 = 1 := by
  refine lpR (fun n j (s : (Nat → Nat → Int32) × (Nat → Nat → Int64)) => fL_law_18 xs N n 0 93 (nI (5 * j)) (Mk s.1 s.2)) (fun j s => ∃ z, Zok z ∧ CI z s.1 s.2 ∧ MI z s.1) (fun o => ∃ r, o = some r ∧ r.1 = 1) (N / 5) ?_ ?_ FU 0 (m, l) (by omega) (by have := FU_big; omega) ⟨z, hz, hc, hm⟩
  · intro n j s hj hI
    left
    obtain ⟨z, hz, hc, hm⟩ := hI
    obtain ⟨i, hi⟩ : ∃ i, i = 5 * j := ⟨_, rfl⟩
    have hiN : i + 5 ≤ N := by omega
    have sx : ∀ k, k < 5 → sX xs N (nI (i + k)) = some (xs (i + k)) := by
      intro k hk
      rw [sX, grd_t (inb_nI (by omega) (by omega)), nI_clamp (by omega)]
    have s0 : sX xs N (nI i) = some (xs i) := sx 0 (by decide)
    have s1 : sX xs N (nI i + 1) = some (xs (i + 1)) := by rw [nI_1]; exact sx 1 (by decide)
    have s2 : sX xs N (nI i + 2) = some (xs (i + 2)) := by rw [show (2 : Int32) = nI 2 from rfl, nI_add]; exact sx 2 (by decide)
    have s3 : sX xs N (nI i + 3) = some (xs (i + 3)) := by rw [show (3 : Int32) = nI 3 from rfl, nI_add]; exact sx 3 (by decide)
    have s4 : sX xs N (nI i + 4) = some (xs (i + 4)) := by rw [show (4 : Int32) = nI 4 from rfl, nI_add]; exact sx 4 (by decide)
    have e5 : nI i + 5 = nI (5 * (j + 1)) := by rw [show (5 : Int32) = nI 5 from rfl, nI_add, hi, Nat.mul_add]
    have h5 : ¬ nI N - 5 < nI i := by
      rw [show (5 : Int32) = nI 5 from rfl, sub_lt (by omega) (by omega) (by omega)]
      omega
    rw [← hi, fL_law_18, if_neg h5, s0, bS]
    simp only [s1, s2, s3, s4, bS, e5]
    by_cases c0 : (xs i &&& 31) = 0
    · obtain ⟨r, m1, l1, m3, z', e6, e7, hz', hc', hm'⟩ := op_step (op_write (xs (i + 1))) hz hc hm
      refine ⟨(m3, l1), ⟨z', hz', hc', hm'⟩, ?_⟩
      rw [if_pos c0, e6, bS, e7, bS, if_pos rfl]
    rw [if_neg c0]
    by_cases c1 : (xs i &&& 31) = 1
    · obtain ⟨r, m1, l1, m3, z', e6, e7, hz', hc', hm'⟩ := op_step (op_wipe) hz hc hm
      refine ⟨(m3, l1), ⟨z', hz', hc', hm'⟩, ?_⟩
      rw [if_pos c1, e6, bS, e7, bS, if_pos rfl]
    rw [if_neg c1]
    by_cases c2 : (xs i &&& 31) = 2
    · obtain ⟨r, m1, l1, m3, z', e6, e7, hz', hc', hm'⟩ := op_step (op_fault) hz hc hm
      refine ⟨(m3, l1), ⟨z', hz', hc', hm'⟩, ?_⟩
      rw [if_pos c2, e6, bS, e7, bS, if_pos rfl]
    rw [if_neg c2]
    by_cases c3 : (xs i &&& 31) = 3
    · obtain ⟨r, m1, l1, m3, z', e6, e7, hz', hc', hm'⟩ := op_step (op_lay) hz hc hm
      refine ⟨(m3, l1), ⟨z', hz', hc', hm'⟩, ?_⟩
      rw [if_pos c3, e6, bS, e7, bS, if_pos rfl]
    rw [if_neg c3]
    by_cases c4 : (xs i &&& 31) = 4
    · obtain ⟨r, m1, l1, m3, z', e6, e7, hz', hc', hm'⟩ := op_step (op_plot (xs (i + 1)) (xs (i + 2))) hz hc hm
      refine ⟨(m3, l1), ⟨z', hz', hc', hm'⟩, ?_⟩
      rw [if_pos c4, e6, bS, e7, bS, if_pos rfl]
    rw [if_neg c4]
    by_cases c5 : (xs i &&& 31) = 5
    · obtain ⟨r, m1, l1, m3, z', e6, e7, hz', hc', hm'⟩ := op_step (op_hour (xs (i + 1)) (xs (i + 2))) hz hc hm
      refine ⟨(m3, l1), ⟨z', hz', hc', hm'⟩, ?_⟩
      rw [if_pos c5, e6, bS, e7, bS, if_pos rfl]
    rw [if_neg c5]
    by_cases c6 : (xs i &&& 31) = 6
    · obtain ⟨r, m1, l1, m3, z', e6, e7, hz', hc', hm'⟩ := op_step (op_fits (xs (i + 1)) (xs (i + 2))) hz hc hm
      refine ⟨(m3, l1), ⟨z', hz', hc', hm'⟩, ?_⟩
      rw [if_pos c6, e6, bS, e7, bS, if_pos rfl]
    rw [if_neg c6]
    by_cases c7 : (xs i &&& 31) = 7
    · obtain ⟨r, m1, l1, m3, z', e6, e7, hz', hc', hm'⟩ := op_step (op_pass (xs (i + 1))) hz hc hm
      refine ⟨(m3, l1), ⟨z', hz', hc', hm'⟩, ?_⟩
      rw [if_pos c7, e6, bS, e7, bS, if_pos rfl]
    rw [if_neg c7]
    by_cases c8 : (xs i &&& 31) = 8
    · obtain ⟨r, m1, l1, m3, z', e6, e7, hz', hc', hm'⟩ := op_step (op_put (xs (i + 1)) (xs (i + 2))) hz hc hm
      refine ⟨(m3, l1), ⟨z', hz', hc', hm'⟩, ?_⟩
      rw [if_pos c8, e6, bS, e7, bS, if_pos rfl]
    rw [if_neg c8]
    by_cases c9 : (xs i &&& 31) = 9
    · obtain ⟨r, m1, l1, m3, z', e6, e7, hz', hc', hm'⟩ := op_step (op_up (xs (i + 1))) hz hc hm
      refine ⟨(m3, l1), ⟨z', hz', hc', hm'⟩, ?_⟩
      rw [if_pos c9, e6, bS, e7, bS, if_pos rfl]
    rw [if_neg c9]
    by_cases c10 : (xs i &&& 31) = 10
    · obtain ⟨r, m1, l1, m3, z', e6, e7, hz', hc', hm'⟩ := op_step (op_dig (xs (i + 1))) hz hc hm
      refine ⟨(m3, l1), ⟨z', hz', hc', hm'⟩, ?_⟩
      rw [if_pos c10, e6, bS, e7, bS, if_pos rfl]
    rw [if_neg c10]
    by_cases c11 : (xs i &&& 31) = 11
    · obtain ⟨r, m1, l1, m3, z', e6, e7, hz', hc', hm'⟩ := op_step (op_undo) hz hc hm
      refine ⟨(m3, l1), ⟨z', hz', hc', hm'⟩, ?_⟩
      rw [if_pos c11, e6, bS, e7, bS, if_pos rfl]
    rw [if_neg c11]
    by_cases c12 : (xs i &&& 31) = 12
    · obtain ⟨r, m1, l1, m3, z', e6, e7, hz', hc', hm'⟩ := op_step (op_out (xs (i + 1))) hz hc hm
      refine ⟨(m3, l1), ⟨z', hz', hc', hm'⟩, ?_⟩
      rw [if_pos c12, e6, bS, e7, bS, if_pos rfl]
    rw [if_neg c12]
    by_cases c13 : (xs i &&& 31) = 13
    · obtain ⟨r, m1, l1, m3, z', e6, e7, hz', hc', hm'⟩ := op_step (op_behind (xs (i + 1)) (xs (i + 2))) hz hc hm
      refine ⟨(m3, l1), ⟨z', hz', hc', hm'⟩, ?_⟩
      rw [if_pos c13, e6, bS, e7, bS, if_pos rfl]
    rw [if_neg c13]
    by_cases c14 : (xs i &&& 31) = 14
    · obtain ⟨r, m1, l1, m3, z', e6, e7, hz', hc', hm'⟩ := op_step (op_above (xs (i + 1))) hz hc hm
      refine ⟨(m3, l1), ⟨z', hz', hc', hm'⟩, ?_⟩
      rw [if_pos c14, e6, bS, e7, bS, if_pos rfl]
    rw [if_neg c14]
    by_cases c15 : (xs i &&& 31) = 15
    · obtain ⟨r, m1, l1, m3, z', e6, e7, hz', hc', hm'⟩ := op_step (op_packs (xs (i + 1))) hz hc hm
      refine ⟨(m3, l1), ⟨z', hz', hc', hm'⟩, ?_⟩
      rw [if_pos c15, e6, bS, e7, bS, if_pos rfl]
    rw [if_neg c15]
    by_cases c16 : (xs i &&& 31) = 16
    · obtain ⟨r, m1, l1, m3, z', e6, e7, hz', hc', hm'⟩ := op_step (op_stir (xs (i + 1))) hz hc hm
      refine ⟨(m3, l1), ⟨z', hz', hc', hm'⟩, ?_⟩
      rw [if_pos c16, e6, bS, e7, bS, if_pos rfl]
    rw [if_neg c16]
    by_cases c17 : (xs i &&& 31) = 17
    · obtain ⟨r, m1, l1, m3, z', e6, e7, hz', hc', hm'⟩ := op_step (op_cheap (xs (i + 1)) (xs (i + 2))) hz hc hm
      refine ⟨(m3, l1), ⟨z', hz', hc', hm'⟩, ?_⟩
      rw [if_pos c17, e6, bS, e7, bS, if_pos rfl]
    rw [if_neg c17]
    by_cases c18 : (xs i &&& 31) = 18
    · obtain ⟨r, m1, l1, m3, z', e6, e7, hz', hc', hm'⟩ := op_step (op_deeper (xs (i + 1))) hz hc hm
      refine ⟨(m3, l1), ⟨z', hz', hc', hm'⟩, ?_⟩
      rw [if_pos c18, e6, bS, e7, bS, if_pos rfl]
    rw [if_neg c18]
    by_cases c19 : (xs i &&& 31) = 19
    · obtain ⟨r, m1, l1, m3, z', e6, e7, hz', hc', hm'⟩ := op_step (op_years (xs (i + 1))) hz hc hm
      refine ⟨(m3, l1), ⟨z', hz', hc', hm'⟩, ?_⟩
      rw [if_pos c19, e6, bS, e7, bS, if_pos rfl]
    rw [if_neg c19]
    by_cases c20 : (xs i &&& 31) = 20
    · obtain ⟨r, m1, l1, m3, z', e6, e7, hz', hc', hm'⟩ := op_step (op_seen (xs (i + 1)) (xs (i + 2)) (xs (i + 3))) hz hc hm
      refine ⟨(m3, l1), ⟨z', hz', hc', hm'⟩, ?_⟩
      rw [if_pos c20, e6, bS, e7, bS, if_pos rfl]
    rw [if_neg c20]
    by_cases c21 : (xs i &&& 31) = 21
    · obtain ⟨r, m1, l1, m3, z', e6, e7, hz', hc', hm'⟩ := op_step (op_forget) hz hc hm
      refine ⟨(m3, l1), ⟨z', hz', hc', hm'⟩, ?_⟩
      rw [if_pos c21, e6, bS, e7, bS, if_pos rfl]
    rw [if_neg c21]
    by_cases c22 : (xs i &&& 31) = 22
    · obtain ⟨r, m1, l1, m3, z', e6, e7, hz', hc', hm'⟩ := op_step (op_plots (xs (i + 1))) hz hc hm
      refine ⟨(m3, l1), ⟨z', hz', hc', hm'⟩, ?_⟩
      rw [if_pos c22, e6, bS, e7, bS, if_pos rfl]
    rw [if_neg c22]
    by_cases c23 : (xs i &&& 31) = 23
    · obtain ⟨r, m1, l1, m3, z', e6, e7, hz', hc', hm'⟩ := op_step (op_kinds (xs (i + 1))) hz hc hm
      refine ⟨(m3, l1), ⟨z', hz', hc', hm'⟩, ?_⟩
      rw [if_pos c23, e6, bS, e7, bS, if_pos rfl]
    rw [if_neg c23]
    by_cases c24 : (xs i &&& 31) = 24
    · obtain ⟨r, m1, l1, m3, z', e6, e7, hz', hc', hm'⟩ := op_step (op_likely (xs (i + 1)) (xs (i + 2)) (xs (i + 3)) (xs (i + 4))) hz hc hm
      refine ⟨(m3, l1), ⟨z', hz', hc', hm'⟩, ?_⟩
      rw [if_pos c24, e6, bS, e7, bS, if_pos rfl]
    rw [if_neg c24]
    by_cases c25 : (xs i &&& 31) = 25
    · obtain ⟨r, m1, l1, m3, z', e6, e7, hz', hc', hm'⟩ := op_step (op_decade (xs (i + 1)) (xs (i + 2)) (xs (i + 3))) hz hc hm
      refine ⟨(m3, l1), ⟨z', hz', hc', hm'⟩, ?_⟩
      rw [if_pos c25, e6, bS, e7, bS, if_pos rfl]
    rw [if_neg c25]
    by_cases c26 : (xs i &&& 31) = 26
    · obtain ⟨r, m1, l1, m3, z', e6, e7, hz', hc', hm'⟩ := op_step (op_keep) hz hc hm
      refine ⟨(m3, l1), ⟨z', hz', hc', hm'⟩, ?_⟩
      rw [if_pos c26, e6, bS, e7, bS, if_pos rfl]
    rw [if_neg c26]
    by_cases c27 : (xs i &&& 31) = 27
    · obtain ⟨r, m1, l1, m3, z', e6, e7, hz', hc', hm'⟩ := op_step (op_back) hz hc hm
      refine ⟨(m3, l1), ⟨z', hz', hc', hm'⟩, ?_⟩
      rw [if_pos c27, e6, bS, e7, bS, if_pos rfl]
    rw [if_neg c27]
    by_cases c28 : (xs i &&& 31) = 28
    · obtain ⟨r, m1, l1, m3, z', e6, e7, hz', hc', hm'⟩ := op_step (op_count (xs (i + 1))) hz hc hm
      refine ⟨(m3, l1), ⟨z', hz', hc', hm'⟩, ?_⟩
      rw [if_pos c28, e6, bS, e7, bS, if_pos rfl]
    rw [if_neg c28]
    exact ⟨s, ⟨z, hz, hc, hm⟩, rfl⟩
  · intro n s hI
    have h5 : nI N - 5 < nI (5 * (N / 5)) := by
      rw [show (5 : Int32) = nI 5 from rfl, sub_lt (by omega) (by omega) (by omega)]
      omega
    rw [fL_law_18, if_pos h5]
    exact ⟨_, rfl, rfl⟩
theorem pure_law (xs : Nat → Int32) (N : Nat) (hN : N ≤ 320) : ∃ r : Int32 × Mu, fL_law xs N mu0 = some r ∧ r.1 = 1 := by
  obtain ⟨m, l, e, hc, hm⟩ := first
  rw [law_ini, e, bS]
  exact law_run xs N hN Zok_F hc hm
