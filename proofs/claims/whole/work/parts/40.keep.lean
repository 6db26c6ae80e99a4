/-! the model's rows of greens -/
section KPa
variable {m m' : Nat → Nat → Int32} {l l' : Nat → Nat → Int64} {g g' : Gn} {n n2 : Nat} {f f2 : Nat → Gn} {z : Zt}
theorem a98 {j : Nat} (hj : j < 168) : aI 8 98 (nI j) (Mk m l) = some (m 98 j) := shN (by decide) (by decide) (by exact hj)
theorem b98 {j : Nat} (hj : j < 168) {x : Int32} : bI 8 98 (nI j) x (Mk m l) = some (Mk (m2 m 98 j x) l) := shP (by decide) (by decide) (by exact hj)
theorem a99 {j : Nat} (hj : j < 42) : aI 8 99 (nI j) (Mk m l) = some (m 99 j) := shN (by decide) (by decide) (by exact hj)
theorem b99 {j : Nat} (hj : j < 42) {x : Int32} : bI 8 99 (nI j) x (Mk m l) = some (Mk (m2 m 99 j x) l) := shP (by decide) (by decide) (by exact hj)
theorem mu21 (j : Nat) : (21 : Int32) * nI j = nI (21 * j) := nI_mul 21 j
/-- only t and the field k of the model have changed -/
def FK (t k : Nat) (m m' : Nat → Nat → Int32) : Prop := (∀ c, c ≠ 93 → c ≠ t → m' c = m c) ∧ (∀ j, j ≠ k → m' 93 j = m 93 j)
theorem FK.tr {t k : Nat} {m1 m2' : Nat → Nat → Int32} (h1 : FK t k m m1) (h2 : FK t k m1 m2') : FK t k m m2' := ⟨fun c q1 q2 => (h2.1 c q1 q2).trans (h1.1 c q1 q2), fun j q => (h2.2 j q).trans (h1.2 j q)⟩
theorem FK.rf {t k : Nat} : FK t k m m := ⟨fun _ _ _ => rfl, fun _ _ => rfl⟩
theorem FK.s1 {t k j : Nat} {x : Int32} (ht : t ≠ 93) : FK t k m (m2 m t j x) := ⟨fun _ _ q2 => m2_ne q2, fun _ _ => by rw [m2_ne (fun e => ht e.symm)]⟩
theorem FK.s2 {t k : Nat} {x : Int32} : FK t k m (m2 m 93 k x) := ⟨fun _ q1 _ => m2_ne q1, fun _ q => m2_nk q⟩
/-- a row is being copied to the n-th place of t -/
def Cq (t n : Nat) (m m' : Nat → Nat → Int32) (j : Nat) : Prop := (∀ i, i < j → m' t (21 * n + i) = m 97 i) ∧ (∀ i, i < 21 * n → m' t i = m t i) ∧ F1 t m m'
theorem Cq_0 {t : Nat} : Cq t n m m 0 := ⟨fun _ h => absurd h (by omega), fun _ _ => rfl, F1.rf⟩
theorem Cq_s {t j : Nat} (ht : 97 ≠ t) (h : Cq t n m m' j) : Cq t n m (m2 m' t (21 * n + j) (m' 97 j)) (j + 1) := by
  refine ⟨fun i hi => ?_, fun i hi => ?_, F1.tr h.2.2 F1.st⟩
  · by_cases q : i = j
    · subst q
      rw [m2_at, h.2.2 97 ht]
    · rw [m2_nk (by omega)]
      exact h.1 i (by omega)
  · rw [m2_nk (by omega)]
    exact h.2.1 i hi
theorem MRw_put {t k : Nat} (ht : t ≠ 93) (hP : g 0 0 ≤ 5) (hr : ∀ i, i < n → MR (fun j => m t (21 * i + j)) (f i)) (hs : MS m g) (hPf : ∀ i, i < n → f i 0 0 ≤ 5) (h : Cq t n m m' 21) (hf : ∀ i, i < n → f2 i = f i) (hg : f2 n = g) : MRw t k (m2 m' 93 k (nI (n + 1))) (n + 1) f2 := by
  refine ⟨m2_at, fun i hi => ?_⟩
  rw [m2_ne ht]
  by_cases q : i = n
  · subst q
    rw [hg]
    exact MR_eq hs hP (fun j hj => h.1 j hj)
  · rw [hf i (by omega)]
    exact MR_eq (hr i (by omega)) (hPf i (by omega)) (fun j hj => h.2.1 (21 * i + j) (by omega))
theorem m_k51 (hk : m 93 6 = nI n) (hn : n < 8) : ∃ m', fX7_keeps_51 FU 93 0 (Mk m l) = some (Mk (m2 m' 93 6 (nI (n + 1))) l) ∧ Cq 98 n m m' 21 := by
  refine lpR (fun n' j (s : Nat → Nat → Int32) => fX7_keeps_51 n' 93 (nI j) (Mk s l)) (fun j s => Cq 98 n m s j) (fun o => ∃ m', o = some (Mk (m2 m' 93 6 (nI (n + 1))) l) ∧ Cq 98 n m m' 21) 21 ?_ ?_ FU 0 m (by decide) (by decide) Cq_0
  · intro n' j s hj hI
    left
    refine ⟨_, Cq_s (by decide) hI, ?_⟩
    have e : s 93 = m 93 := hI.2.2 93 (by decide)
    have e2 : nI (21 * n) + nI j = nI (21 * n + j) := nI_add _ _
    rw [fX7_keeps_51, if_neg (by rw [show (21 : Int32) = nI 21 from rfl]; exact nI_ge hj (by decide))]
    simp only [M_r5, M_r4, M_gI, e, hk, Option.bind_some, a97 hj, mu21, e2, b98 (show 21 * n + j < 168 by omega), nI_1]
  · intro n' s hI
    have e : s 93 = m 93 := hI.2.2 93 (by decide)
    refine ⟨s, ?_, hI⟩
    rw [fX7_keeps_51, if_pos (by decide)]
    simp only [M_gI, e, hk, Option.bind_some, nI_1, M_pI]
theorem m_keeps (hr : MRw 98 6 m n f) (hn : n ≤ 8) (hs : MS m g) (hP : g 0 0 ≤ 5) (hPf : ∀ i, i < n → f i 0 0 ≤ 5) : ∃ m', fX7_keeps 93 (Mk m l) = some (Mk m' l) ∧ MRw 98 6 m' (more 8 n) (push 8 n f g) ∧ FK 98 6 m m' := by
  rw [fX7_keeps, grd_t M_o, M_gI, Option.bind_some, hr.1]
  by_cases q : n = 8
  · subst q
    rw [if_pos (by decide)]
    have key : ∃ m1, fX7_keeps_11 FU 93 0 (Mk m l) = fX7_keeps_51 FU 93 0 (Mk (m2 m1 93 6 (nI 7)) l) ∧ (∀ i, i < 147 → m1 98 i = m 98 (i + 21)) ∧ F1 98 m m1 := by
      refine lpR (fun n' j (s : Nat → Nat → Int32) => fX7_keeps_11 n' 93 (nI j) (Mk s l)) (fun j s => (∀ i, i < j → s 98 i = m 98 (i + 21)) ∧ (∀ i, j ≤ i → s 98 i = m 98 i) ∧ F1 98 m s) (fun o => ∃ m1, o = fX7_keeps_51 FU 93 0 (Mk (m2 m1 93 6 (nI 7)) l) ∧ (∀ i, i < 147 → m1 98 i = m 98 (i + 21)) ∧ F1 98 m m1) 147 ?_ ?_ FU 0 m (by decide) (by decide) ⟨fun i hi => absurd hi (by omega), fun i _ => rfl, F1.rf⟩
      · intro n' j s hj hI
        left
        refine ⟨m2 s 98 j (s 98 (j + 21)), ⟨fun i hi => ?_, fun i hi => ?_, F1.tr hI.2.2 F1.st⟩, ?_⟩
        · by_cases e : i = j
          · subst e
            rw [m2_at, hI.2.1 _ (by omega)]
          · rw [m2_nk e]
            exact hI.1 i (by omega)
        · rw [m2_nk (by omega)]
          exact hI.2.1 i (by omega)
        · rw [fX7_keeps_11, if_neg (by rw [show (147 : Int32) = nI 147 from rfl]; exact nI_ge hj (by decide))]
          simp only [M_r5, Option.bind_some, show nI j + 21 = nI (j + 21) from nI_add j 21, a98 (show j + 21 < 168 by omega), b98 (show j < 168 by omega), nI_1]
      · intro n' s hI
        refine ⟨s, ?_, hI.1, hI.2.2⟩
        have e : s 93 = m 93 := hI.2.2 93 (by decide)
        rw [fX7_keeps_11, if_pos (by decide)]
        simp only [M_gI, Option.bind_some, e, hr.1, show nI 8 - 1 = nI 7 from nI_pred 7, M_pI]
    obtain ⟨m1, e1, h1, f1⟩ := key
    obtain ⟨m3, e3, h3⟩ := m_k51 (m := m2 m1 93 6 (nI 7)) (l := l) (n := 7) m2_at (by decide)
    rw [e1, e3]
    refine ⟨_, rfl, ?_, ?_⟩
    · refine MRw_put (m := m2 m1 93 6 (nI 7)) (f := fun i => f (i + 1)) (by decide) hP ?_ ?_ (fun i hi => hPf (i + 1) (by omega)) h3 (fun i hi => ?_) ?_
      · intro i hi
        rw [m2_ne (by decide)]
        exact MR_eq (hr.2 (i + 1) (by omega)) (hPf (i + 1) (by omega)) (fun j hj => by show m1 98 (21 * i + j) = m 98 (21 * (i + 1) + j); rw [h1 _ (by omega), show 21 * i + j + 21 = 21 * (i + 1) + j by omega])
      · rw [MS_MR, m2_ne (by decide), f1 97 (by decide)]
        exact hs
      · rw [push, if_neg (by decide), if_neg (by omega)]
      · rw [push, if_neg (by decide), if_pos rfl]
    · refine FK.tr (m1 := m1) ⟨fun c q1 q2 => f1 c q2, fun j _ => by rw [f1 93 (by decide)]⟩ (FK.tr FK.s2 (FK.tr (m1 := m3) ⟨fun c q1 q2 => h3.2.2 c q2, fun j _ => by rw [h3.2.2 93 (by decide)]⟩ FK.s2))
  · rw [if_neg (by rw [show (8 : Int32) = nI 8 from rfl, nI_inj (by omega) (by decide)]; exact q)]
    obtain ⟨m3, e3, h3⟩ := m_k51 (l := l) hr.1 (show n < 8 by omega)
    rw [e3]
    have e4 : more 8 n = n + 1 := by rw [more, if_pos (by omega)]
    refine ⟨_, rfl, ?_, FK.tr (m1 := m3) ⟨fun c q1 q2 => h3.2.2 c q2, fun j _ => by rw [h3.2.2 93 (by decide)]⟩ FK.s2⟩
    rw [e4]
    refine MRw_put (by decide) hP hr.2 hs hPf h3 (fun i hi => ?_) ?_
    · simp only [push]
      rw [if_pos (by omega), if_neg (by omega)]
    · simp only [push]
      rw [if_pos (by omega), if_pos trivial]
theorem CI_mk (h : CI z m l) (hg : CG 4 m' l' g') (hp : Sh 16 8 18 m' l' n f) (hk : Sh 66 2 68 m' l' n2 f2) (hf : ∀ c, c = 1 ∨ c = 2 ∨ (80 ≤ c ∧ c < 84) → m' c = m c) : CI (g', (n, f), (n2, f2), z.2.2.2.1, z.2.2.2.2) m' l' := ⟨hg, hp, hk, CTx_eq h.2.2.2.1 (hf 1 (by omega)) (hf 2 (by omega)), CSi_eq h.2.2.2.2 (fun c q1 q2 => hf c (by omega))⟩
theorem MI_mk (h : MI z m) (ht : MT 95 m' g') (hs : MS m' g') (hp : MRw 98 6 m' n f) (hk : MRw 99 8 m' n2 f2) (e1 : m' 93 1 = m 93 1) (e10 : m' 93 10 = m 93 10) (e94 : m' 94 = m 94) (e100 : m' 100 = m 100) : MI (g', (n, f), (n2, f2), z.2.2.2.1, z.2.2.2.2) m' := by
  refine ⟨⟨ht, hs⟩, hp, hk, ?_, ?_⟩
  · unfold MTx
    rw [e1, e94]
    exact h.2.2.2.1
  · unfold MSi
    rw [e10, e100]
    exact h.2.2.2.2
/-- the class keeps the green of now, and makes another of it -/
theorem CI_push (h : CI z m l) (hw : Wf (zg z)) : ∃ m' l', fX4_store 16 4 (Mk m l) = some (Mk m' l') ∧ CG 4 m' l' (zg z) ∧ (∀ c, 93 ≤ c → m' c = m c) ∧ ∀ m'' g', CG 4 m'' l' g' → Fr 4 m' m'' → CI (g', (more 8 (zpn z), push 8 (zpn z) (zpf z) (zg z)), z.2.2.1, z.2.2.2.1, z.2.2.2.2) m'' l' := by
  obtain ⟨m', l', e, h1, h2, h3⟩ := S_store isS_p h.2.1 h.1 hw.1.1
  refine ⟨m', l', e, CG_eq h.1 (fun c q1 q2 => h2 c (by omega)) (h3 4 (by omega)), fun c hc => h2 c (by omega), fun m'' g' hg hf => ?_⟩
  refine CI_mk (m := m) (l := l) h hg (Sh_eq isS_p h1 (fun c q1 q2 => hf c (by omega)) (fun c q1 q2 => rfl)) (Sh_eq isS_k (f := zkf z) h.2.2.1 (fun c q1 q2 => ?_) (fun c q1 q2 => h3 c (by omega))) (fun c hc => ?_)
  · rw [hf c (by omega), h2 c (by omega)]
  · rw [hf c (by omega), h2 c (by omega)]
theorem MI_push (h : MI z m) (hz : Zok z) : ∃ m', fX7_keeps 93 (Mk m l) = some (Mk m' l) ∧ MT 95 m' (zg z) ∧ MS m' (zg z) ∧ (∀ c, c < 93 → m' c = m c) ∧ ∀ m'' g', MT 95 m'' g' → MS m'' g' → F1 97 m' m'' → MI (g', (more 8 (zpn z), push 8 (zpn z) (zpf z) (zg z)), z.2.2.1, z.2.2.2.1, z.2.2.2.2) m'' := by
  obtain ⟨m', e, h1, h2⟩ := m_keeps (l := l) h.2.1 hz.2.1.1 h.1.2 hz.1.1.1.1 (fun i hi => (hz.2.1.2 i hi).1.1.1.1)
  refine ⟨m', e, ?_, ?_, fun c hc => h2.1 c (by omega) (by omega), fun m'' g' ht hs hf => ?_⟩
  · unfold MT
    rw [h2.1 95 (by decide) (by decide)]
    exact h.1.1
  · rw [MS_MR, h2.1 97 (by decide) (by decide)]
    exact h.1.2
  · have e93 : m'' 93 = m' 93 := hf 93 (by decide)
    refine MI_mk h ht hs (MRw_eq h1 (by rw [e93]) (hf 98 (by decide))) (MRw_eq (f := zkf z) h.2.2.1 (by rw [e93, h2.2 8 (by decide)]) (by rw [hf 99 (by decide), h2.1 99 (by decide) (by decide)])) (by rw [e93, h2.2 1 (by decide)]) (by rw [e93, h2.2 10 (by decide)]) (by rw [hf 94 (by decide), h2.1 94 (by decide) (by decide)]) (by rw [hf 100 (by decide), h2.1 100 (by decide) (by decide)])
theorem Zok_push (hz : Zok z) (ho : Og g') (hs : Sm (zg z) g') : Zok (g', (more 8 (zpn z), push 8 (zpn z) (zpf z) (zg z)), z.2.2.1, z.2.2.2.1, z.2.2.2.2) := by
  obtain ⟨h1, h2, h3, h4, h5⟩ := hz
  refine ⟨ho, ⟨?_, fun i hi => ?_⟩, ⟨h3.1, fun i hi => ⟨(h3.2 i hi).1, hs.sy.tr (h3.2 i hi).2⟩⟩, h4, ⟨h5.1, fun i hi => ?_⟩⟩
  · show more 8 (zpn z) ≤ 8
    unfold more
    split <;> omega
  · have hi : i < more 8 (zpn z) := hi
    show Og (push 8 (zpn z) (zpf z) (zg z) i) ∧ Sm g' (push 8 (zpn z) (zpf z) (zg z) i)
    unfold more at hi
    unfold push
    by_cases q : zpn z < 8
    · rw [if_pos q] at hi ⊢
      by_cases q2 : i = zpn z
      · rw [if_pos q2]
        exact ⟨h1, hs.sy⟩
      · rw [if_neg q2]
        exact ⟨(h2.2 i (by omega)).1, hs.sy.tr (h2.2 i (by omega)).2⟩
    · rw [if_neg q] at hi ⊢
      by_cases q2 : i + 1 = 8
      · rw [if_pos q2]
        exact ⟨h1, hs.sy⟩
      · rw [if_neg q2]
        exact ⟨(h2.2 (i + 1) (by omega)).1, hs.sy.tr (h2.2 (i + 1) (by omega)).2⟩
  · have := h5.2 i hi
    refine ⟨this.1, ?_, this.2.2⟩
    show zsf z i 1 < g' 0 1
    rw [hs.2.1]
    exact this.2.1
theorem m_undo22 (hk : m 93 6 = nI n) (hn : n < 8) : ∃ m', fX7_undo_22 FU 93 0 (Mk m l) = some (nI n, Mk m' l) ∧ (∀ k, k < 21 → m' 97 k = m 98 (21 * n + k)) ∧ F1 97 m m' := by
  refine lpR (fun n' j (s : Nat → Nat → Int32) => fX7_undo_22 n' 93 (nI j) (Mk s l)) (fun j s => (∀ k, k < j → s 97 k = m 98 (21 * n + k)) ∧ F1 97 m s) (fun o => ∃ m', o = some (nI n, Mk m' l) ∧ (∀ k, k < 21 → m' 97 k = m 98 (21 * n + k)) ∧ F1 97 m m') 21 ?_ ?_ FU 0 m (by decide) (by decide) ⟨fun _ h => absurd h (by omega), F1.rf⟩
  · intro n' j s hj hI
    left
    refine ⟨m2 s 97 j (m 98 (21 * n + j)), ⟨fun k hk' => ?_, F1.tr hI.2 F1.st⟩, ?_⟩
    · by_cases q : k = j
      · subst q
        rw [m2_at]
      · rw [m2_nk q]
        exact hI.1 k (by omega)
    · have e : s 93 = m 93 := hI.2 93 (by decide)
      have e2 : nI (21 * n) + nI j = nI (21 * n + j) := nI_add _ _
      rw [fX7_undo_22, if_neg (by rw [show (21 : Int32) = nI 21 from rfl]; exact nI_ge hj (by decide))]
      simp only [M_r5, M_r4, M_gI, e, hk, Option.bind_some, mu21, e2, a98 (show 21 * n + j < 168 by omega), b97 hj, nI_1, hI.2 98 (by decide)]
  · intro n' s hI
    have e : s 93 = m 93 := hI.2 93 (by decide)
    refine ⟨s, ?_, hI⟩
    rw [fX7_undo_22, if_pos (by decide)]
    simp only [M_gI, e, hk, Option.bind_some]
theorem m_back22 (hk : m 93 8 = nI n) (hn : n < 2) : ∃ m', fX7_back_22 FU 93 0 (Mk m l) = some (nI n, Mk (m2 m' 93 6 0) l) ∧ (∀ k, k < 21 → m' 97 k = m 99 (21 * n + k)) ∧ F1 97 m m' := by
  refine lpR (fun n' j (s : Nat → Nat → Int32) => fX7_back_22 n' 93 (nI j) (Mk s l)) (fun j s => (∀ k, k < j → s 97 k = m 99 (21 * n + k)) ∧ F1 97 m s) (fun o => ∃ m', o = some (nI n, Mk (m2 m' 93 6 0) l) ∧ (∀ k, k < 21 → m' 97 k = m 99 (21 * n + k)) ∧ F1 97 m m') 21 ?_ ?_ FU 0 m (by decide) (by decide) ⟨fun _ h => absurd h (by omega), F1.rf⟩
  · intro n' j s hj hI
    left
    refine ⟨m2 s 97 j (m 99 (21 * n + j)), ⟨fun k hk' => ?_, F1.tr hI.2 F1.st⟩, ?_⟩
    · by_cases q : k = j
      · subst q
        rw [m2_at]
      · rw [m2_nk q]
        exact hI.1 k (by omega)
    · have e : s 93 = m 93 := hI.2 93 (by decide)
      have e2 : nI (21 * n) + nI j = nI (21 * n + j) := nI_add _ _
      rw [fX7_back_22, if_neg (by rw [show (21 : Int32) = nI 21 from rfl]; exact nI_ge hj (by decide))]
      simp only [M_r7, M_r4, M_gI, e, hk, Option.bind_some, mu21, e2, a99 (show 21 * n + j < 42 by omega), b97 hj, nI_1, hI.2 99 (by decide)]
  · intro n' s hI
    have e : s 93 = m 93 := hI.2 93 (by decide)
    refine ⟨s, ?_, hI⟩
    rw [fX7_back_22, if_pos (by decide)]
    simp only [M_pI, M_gI, m2_nk (show 8 ≠ 6 by decide), e, hk, Option.bind_some]
theorem m_keep13 (hk : m 93 8 = nI n) (hn : n < 2) : ∃ m', fX7_keep_13 FU 93 0 (Mk m l) = some (nI (n + 1), Mk (m2 m' 93 8 (nI (n + 1))) l) ∧ Cq 99 n m m' 21 := by
  refine lpR (fun n' j (s : Nat → Nat → Int32) => fX7_keep_13 n' 93 (nI j) (Mk s l)) (fun j s => Cq 99 n m s j) (fun o => ∃ m', o = some (nI (n + 1), Mk (m2 m' 93 8 (nI (n + 1))) l) ∧ Cq 99 n m m' 21) 21 ?_ ?_ FU 0 m (by decide) (by decide) Cq_0
  · intro n' j s hj hI
    left
    refine ⟨_, Cq_s (by decide) hI, ?_⟩
    have e : s 93 = m 93 := hI.2.2 93 (by decide)
    have e2 : nI (21 * n) + nI j = nI (21 * n + j) := nI_add _ _
    rw [fX7_keep_13, if_neg (by rw [show (21 : Int32) = nI 21 from rfl]; exact nI_ge hj (by decide))]
    simp only [M_r7, M_r4, M_gI, e, hk, Option.bind_some, a97 hj, mu21, e2, b99 (show 21 * n + j < 42 by omega), nI_1]
  · intro n' s hI
    have e : s 93 = m 93 := hI.2.2 93 (by decide)
    refine ⟨s, ?_, hI⟩
    rw [fX7_keep_13, if_pos (by decide)]
    simp only [M_gI, e, hk, Option.bind_some, nI_1, M_pI, m2_at]
end KPa
