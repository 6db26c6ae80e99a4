theorem ct_more {p : Nat → Bool} {e : Nat} : ∀ {n : Nat}, e ≤ n → (∀ k, e ≤ k → k < n → p k = false) → ct p n = ct p e
  | 0, h, _ => by
    have : e = 0 := by omega
    rw [this]
  | n + 1, h, hc => by
    by_cases q : e = n + 1
    · rw [q]
    · rw [ct, hc n (by omega) (by omega), ct_more (n := n) (by omega) (fun k h1 h2 => hc k h1 (by omega))]
      simp
theorem Nl_Al {g : Gn} {h u : Nat} (h1 : Nl g h) (h2 : Al g h u) : False := by
  obtain ⟨_, i, hi, q1, q2⟩ := h1
  have := h2.2.2 i hi q1
  rw [q2] at this
  exact absurd this (by decide)
theorem gcd_st (a b : Nat) : Nat.gcd a b = Nat.gcd b (a % b) := by
  rw [Nat.gcd_comm, Nat.gcd_rec, Nat.gcd_comm]
section COa
variable {a : Nat} {m : Nat → Nat → Int32} {l : Nat → Nat → Int64} {g : Gn}
theorem c_visits (ha : isG a) (hc : CG a m l g) (hw : Wb g) (hP : 0 < g 0 0) {p n : Nat} (hp : p < 9) (hn : n ≤ 8) (hy : g 0 2 ≤ 100000) : fX0_visitsTo a (nI p) (nI n) (Mk m l) = some (nI (vi (g 0 0) p (g 0 2) n), Mk m l) := by
  have hP5 := hw.1
  rw [fX0_visitsTo, grd_t (G_o ha)]
  refine lpR (fun n' j (x : Int32) => fX0_visitsTo_5 n' a (nI p) (nI n) x (nI j) (Mk m l)) (fun j x => x = nI (vi (g 0 0) p (g 0 2) j)) (fun o => o = some (nI (vi (g 0 0) p (g 0 2) n), Mk m l)) n ?_ ?_ FU 0 0 (by omega) (by have := FU_big; omega) rfl
  · intro n' j s hj hI
    left
    subst hI
    refine ⟨_, rfl, ?_⟩
    have hm : (g 0 2 + j) % g 0 0 < g 0 0 := Nat.mod_lt _ hP
    have ev : vi (g 0 0) p (g 0 2) (j + 1) = vi (g 0 0) p (g 0 2) j + (if ((g 0 2 + j) % g 0 0 == p) = true then 1 else 0) := rfl
    rw [fX0_visitsTo_5, if_neg (nI_ge hj (by omega)), G_gI ha, bS, hc.1 2 (by decide), nI_add, c_rabbitPlot ha hc hw hP (by omega), bS, ev]
    by_cases q : (g 0 2 + j) % g 0 0 = p
    · rw [if_pos (by rw [q]), nI_1, nI_1]
      simp [q]
    · rw [if_neg (by rw [nI_inj (by omega) (by omega)]; exact q), nI_1]
      simp [q]
  · intro n' s hI
    subst hI
    rw [fX0_visitsTo_5, if_pos (nI_le (Nat.le_refl _) (by omega))]
theorem c_borne (ha : isG a) (hc : CG a m l g) (hw : Wb g) {h : Nat} (hh : h < g 0 1) (h9 : g 4 h ≠ 9) : (Nl g h ∧ fX0_throwsBorneBy a (nI h) (Mk m l) = some (nI 8, Mk m l)) ∨ (Al g h (ct (ab g h) 7) ∧ fX0_throwsBorneBy a (nI h) (Mk m l) = some (nI (ct (ab g h) 7), Mk m l)) := by
  have hN7 := hw.2.1
  rw [fX0_throwsBorneBy, grd_t (G_o ha)]
  refine lpR (fun n j (x : Int32) => fX0_throwsBorneBy_4 n a (nI h) x (nI j) (Mk m l)) (fun j x => x = nI (ct (fun i => i == h || ab g h i) j) ∧ ∀ i, i < j → (i = h ∨ ab g h i = true) → lz (g 2 i) = true) (fun o => (Nl g h ∧ o = some (nI 8, Mk m l)) ∨ (Al g h (ct (ab g h) 7) ∧ o = some (nI (ct (ab g h) 7), Mk m l))) (g 0 1) ?_ ?_ FU 0 0 (by omega) (by have := FU_big; omega) ⟨rfl, fun i hi => absurd hi (by omega)⟩
  · intro n j s hj hI
    obtain ⟨i1, i2⟩ := hI
    have hk4 := (hw.2.2.2.2 j (by omega)).1
    rw [fX0_throwsBorneBy_4, G_gI ha, bS, hc.1 1 (by decide), if_neg (nI_ge hj (by omega))]
    have e26 : (j = h ∨ ab g h j = true) → (∃ s', (s' = nI (ct (fun i => i == h || ab g h i) (j + 1)) ∧ ∀ i, i < j + 1 → (i = h ∨ ab g h i = true) → lz (g 2 i) = true) ∧ fX0_throwsBorneBy_26 (fX0_throwsBorneBy_4 n) a (nI h) s (nI j) (Mk m l) = fX0_throwsBorneBy_4 n a (nI h) s' (nI (j + 1)) (Mk m l)) ∨ ((Nl g h ∧ fX0_throwsBorneBy_26 (fX0_throwsBorneBy_4 n) a (nI h) s (nI j) (Mk m l) = some (nI 8, Mk m l)) ∨ (Al g h (ct (ab g h) 7) ∧ fX0_throwsBorneBy_26 (fX0_throwsBorneBy_4 n) a (nI h) s (nI j) (Mk m l) = some (nI (ct (ab g h) 7), Mk m l))) := by
      intro hq
      have hcc : (j == h || ab g h j) = true := by
        rcases hq with e | e
        · simp [e]
        · simp [e]
      rw [fX0_throwsBorneBy_26, c_kindOf ha hc hw hj, bS, c_isLoose hk4, bS]
      by_cases q : lz (g 2 j) = true
      · left
        have q' : (g 2 j == 0 || g 2 j == 2) = true := q
        refine ⟨_, ⟨rfl, fun i hi z => ?_⟩, ?_⟩
        · by_cases e : i = j
          · rw [e]; exact q
          · exact i2 i (by omega) z
        · simp only [q', if_true, if_neg n0, i1, nI_1]
          rw [ct, if_pos hcc]
      · right
        left
        have q2 : (g 2 j == 0 || g 2 j == 2) = false := by simpa [lz] using q
        have q3 : lz (g 2 j) = false := q2
        refine ⟨⟨h9, j, by omega, hq, q3⟩, ?_⟩
        simp only [q2, Bool.false_eq_true, if_false, if_true]
        rfl
    by_cases qh : j = h
    · rw [if_pos (by rw [qh])]
      exact e26 (Or.inl qh)
    · rw [if_neg (by rw [nI_inj (by omega) (by omega)]; exact qh), c_isAbove ha hc hw hh hj, bS]
      by_cases qa : ab g h j = true
      · rw [if_pos qa, if_neg n0]
        exact e26 (Or.inr qa)
      · left
        refine ⟨s, ⟨?_, fun i hi z => ?_⟩, ?_⟩
        · rw [i1, ct]
          simp [qh, qa]
        · by_cases e : i = j
          · subst e
            rcases z with z | z
            · exact absurd z qh
            · exact absurd z qa
          · exact i2 i (by omega) z
        · rw [if_neg qa, if_pos rfl, nI_1]
  · intro n s hI
    right
    obtain ⟨i1, i2⟩ := hI
    have e1 : ct (fun i => i == h || ab g h i) (g 0 1) = ct (ab g h) 7 + 1 := by
      have h1 := ct_upd (ab g h) true hh
      rw [ab_self] at h1
      rw [ct_more hN7 (fun k z1 z2 => ab_N hw z1 z2)]
      have h2 : ct (fun i => i == h || ab g h i) (g 0 1) = ct (fun k => if k = h then true else ab g h k) (g 0 1) := by
        refine ct_cong (fun k _ => ?_)
        by_cases z : k = h
        · simp [z]
        · simp [z]
      rw [h2]
      simp only [Bool.false_eq_true, if_false, if_true] at h1
      omega
    refine ⟨⟨h9, rfl, fun i hi z => ?_⟩, ?_⟩
    · by_cases e : i < g 0 1
      · exact i2 i e z
      · rcases z with z | z
        · omega
        · rw [ab_N hw (by omega) hi] at z
          exact absurd z (by decide)
    · rw [fX0_throwsBorneBy_4, G_gI ha, bS, hc.1 1 (by decide), if_pos (nI_le (Nat.le_refl _) (by omega)), i1, e1, nI_pred]
end COa
theorem c_cd {μ : Mu} : ∀ (k big small c n : Nat), small < big → big < fb (k + 2) → big < 2 ^ 31 → c + k ≤ 50 → k < n → fX1_commonDivisor_7 n (nI big) (nI small) (nI c) μ = some (nI (Nat.gcd big small), μ) := by
  intro k
  induction k using Nat.strongRecOn with
  | ind k ih =>
    intro big small c n h1 h2 h3 h4 h5
    obtain ⟨n', rfl⟩ : ∃ n', n = n' + 1 := ⟨n - 1, by omega⟩
    match k, ih, h2, h4, h5 with
    | 0, _, h2, _, _ =>
      have : fb (0 + 2) = 1 := rfl
      omega
    | 1, _, h2, h4, _ =>
      have : fb (1 + 2) = 2 := rfl
      have hs : small = 0 := by omega
      subst hs
      rw [fX1_commonDivisor_7, if_neg (by rw [show (50 : Int32) = nI 50 from rfl]; exact nI_ge (by omega) (by decide)), if_pos (show nI 0 = 0 from rfl), Nat.gcd_zero_right]
    | k' + 2, ih, h2, h4, h5 =>
      rw [fX1_commonDivisor_7, if_neg (by rw [show (50 : Int32) = nI 50 from rfl]; exact nI_ge (by omega) (by decide))]
      by_cases q : small = 0
      · rw [q, if_pos (show nI 0 = 0 from rfl), Nat.gcd_zero_right]
      · have hr : big % small < small := Nat.mod_lt _ (by omega)
        rw [if_neg (nI_ne0 (by omega) (by omega)), rmd_nI (by omega) (by omega) (by omega), bS, nI_1, gcd_st]
        by_cases q2 : small < fb (k' + 1 + 2)
        · exact ih (k' + 1) (by omega) small (big % small) (c + 1) n' hr q2 (by omega) (by omega) (by omega)
        · have hb : big % small ≤ big - small := by
            rw [Nat.mod_eq_sub_mod (by omega)]
            exact Nat.mod_le _ _
          have hf : fb (k' + 2 + 2) = fb (k' + 2) + fb (k' + 1 + 2) := fb_s (k' + 2)
          obtain ⟨n'', rfl⟩ : ∃ n'', n' = n'' + 1 := ⟨n' - 1, by omega⟩
          rw [fX1_commonDivisor_7, if_neg (by rw [show (50 : Int32) = nI 50 from rfl]; exact nI_ge (by omega) (by decide))]
          by_cases q3 : big % small = 0
          · rw [q3, if_pos (show nI 0 = 0 from rfl), Nat.gcd_zero_right]
          · have hr2 : small % (big % small) < big % small := Nat.mod_lt _ (by omega)
            rw [if_neg (nI_ne0 (by omega) (by omega)), rmd_nI (by omega) (by omega) (by omega), bS, nI_1, gcd_st small]
            exact ih k' (by omega) (big % small) (small % (big % small)) (c + 1 + 1) n'' hr2 (by omega) (by omega) (by omega) (by omega)
theorem c_gcd {μ : Mu} {x y : Nat} (hx : x ≤ 100000000) (hxy : y ≤ x) : fX1_commonDivisor (nI x) (nI y) μ = some (nI (Nat.gcd x y), μ) := by
  rw [fX1_commonDivisor, show FU = 999999999 + 1 from rfl, fX1_commonDivisor_7, if_neg (by decide)]
  by_cases q : y = 0
  · rw [q, if_pos (show nI 0 = 0 from rfl), Nat.gcd_zero_right]
  · have hr : x % y < y := Nat.mod_lt _ (by omega)
    rw [if_neg (nI_ne0 (by omega) (by omega)), rmd_nI (by omega) (by omega) (by omega), bS, gcd_st]
    exact c_cd 39 y (x % y) 1 999999999 hr (by have := fb_41; have : fb (39 + 2) = fb 41 := rfl; omega) (by omega) (by decide) (by decide)
section COb
variable {m : Nat → Nat → Int32} {l : Nat → Nat → Int64}
theorem O_o : isO 1 91 (Mk m l) := ⟨show 91 < 107 by decide, by decide⟩
theorem O_gI {k : Nat} : gI 1 91 k (Mk m l) = some (m 91 k) := rfl
theorem O_pI {k : Nat} {x : Int32} : pI 1 91 k x (Mk m l) = some (Mk (m2 m 91 k x) l) := rfl
theorem O_r2 : gR 1 91 2 (Mk m l) = some 92 := gRk ⟨show 91 < 107 by decide, by decide⟩ (by decide) (by decide) (by decide)
theorem a92 {j : Nat} (hj : j < 9) : aI 8 92 (nI j) (Mk m l) = some (m 92 j) := shN (by decide) (by decide) (by exact hj)
theorem b92 {j : Nat} (hj : j < 9) {x : Int32} : bI 8 92 (nI j) x (Mk m l) = some (Mk (m2 m 92 j x) l) := shP (by decide) (by decide) (by exact hj)
theorem c_row {v x i : Nat} (hx : x ≤ 10) {K : Nat → Int32 → Int32 → Int32 → Mu → Option Mu} (h0 : ∀ t, t < 9 → m 92 t = nI (cs x i t)) : ∃ m', fX1_spread_40 K FU 91 (nI v) (nI x) (nI i) 8 (Mk m l) = K 91 (nI v) (nI x) (nI (i + 1)) (Mk m' l) ∧ (∀ t, t < 9 → m' 92 t = nI (cs x (i + 1) t)) ∧ F1 92 m m' := by
  have e10 : (10 : Int32) - nI x = nI (10 - x) := nI_sub (a := 10) hx
  refine lpR (fun n j (s : Nat → Nat → Int32) => fX1_spread_40 K n 91 (nI v) (nI x) (nI i) (nI (8 - j)) (Mk s l)) (fun j s => (∀ t, 8 - j < t → t < 9 → s 92 t = nI (cs x (i + 1) t)) ∧ (∀ t, t ≤ 8 - j → s 92 t = nI (cs x i t)) ∧ F1 92 m s) (fun o => ∃ m', o = K 91 (nI v) (nI x) (nI (i + 1)) (Mk m' l) ∧ (∀ t, t < 9 → m' 92 t = nI (cs x (i + 1) t)) ∧ F1 92 m m') 8 ?_ ?_ FU 0 m (by decide) (by have := FU_big; omega) ⟨fun t h1 h2 => absurd h1 (by omega), fun t ht => h0 t (by omega), F1.rf⟩
  · intro n j s hj hI
    left
    obtain ⟨i1, i2, i3⟩ := hI
    obtain ⟨c, hc⟩ : ∃ c, 8 - j = c + 1 := ⟨7 - j, by omega⟩
    have hc' : 8 - (j + 1) = c := by omega
    rw [hc] at i1 i2
    rw [hc, hc']
    refine ⟨m2 s 92 (c + 1) (nI (cs x (i + 1) (c + 1))), ⟨fun t h1 h2 => ?_, fun t ht => ?_, i3.tr F1.st⟩, ?_⟩
    · by_cases z : t = c + 1
      · rw [z, m2_at]
      · rw [m2_nk z]
        exact i1 t (by omega) h2
    · rw [m2_nk (by omega)]
      exact i2 t (by omega)
    · have ec : cs x (i + 1) (c + 1) = cs x i (c + 1) * (10 - x) + cs x i c * x := by rw [cs, if_neg (by omega), Nat.add_sub_cancel]
      rw [fX1_spread_40, if_neg (nI_nle (by omega) (by omega)), O_r2, bS, bS, a92 (by omega), bS, bS, nI_pred, a92 (by omega), bS, i2 (c + 1) (Nat.le_refl _), i2 c (by omega), e10, nI_mul, nI_mul, nI_add, b92 (by omega), bS, nI_m1, nI_pred, ec]
  · intro n s hI
    obtain ⟨i1, i2, i3⟩ := hI
    refine ⟨m2 s 92 0 (nI (cs x (i + 1) 0)), ?_, fun t ht => ?_, i3.tr F1.st⟩
    · have ec : cs x (i + 1) 0 = cs x i 0 * (10 - x) := by rw [cs, if_pos rfl, Nat.add_zero]
      have a0 : aI 8 92 0 (Mk s l) = some (s 92 0) := a92 (j := 0) (by decide)
      have b0 : ∀ y : Int32, bI 8 92 0 y (Mk s l) = some (Mk (m2 s 92 0 y) l) := fun y => b92 (j := 0) (by decide)
      rw [Nat.sub_self, fX1_spread_40, if_pos (by decide), O_r2, bS, a0, bS, i2 0 (Nat.zero_le _), e10, nI_mul, b0, bS, nI_1, ec]
    · by_cases z : t = 0
      · rw [z, m2_at]
      · rw [m2_nk z]
        exact i1 t (by omega) ht
theorem c_spread {v x : Nat} (hx : x ≤ 10) (hv : v ≤ 8) : ∃ m', fX1_spread 91 (nI v) (nI x) (Mk m l) = some (Mk m' l) ∧ (∀ t, t < 9 → m' 92 t = nI (cs x v t)) ∧ F1 92 m m' := by
  have out : ∀ s : Nat → Nat → Int32, (∀ t, t < 9 → s 92 t = nI (cs x 0 t)) → F1 92 m s → ∃ m', fX1_spread_31 FU 91 (nI v) (nI x) 0 (Mk s l) = some (Mk m' l) ∧ (∀ t, t < 9 → m' 92 t = nI (cs x v t)) ∧ F1 92 m m' := by
    intro s0 h0 f0'
    refine lpR (fun n j (s : Nat → Nat → Int32) => fX1_spread_31 n 91 (nI v) (nI x) (nI j) (Mk s l)) (fun j s => (∀ t, t < 9 → s 92 t = nI (cs x j t)) ∧ F1 92 m s) (fun o => ∃ m', o = some (Mk m' l) ∧ (∀ t, t < 9 → m' 92 t = nI (cs x v t)) ∧ F1 92 m m') v ?_ ?_ FU 0 s0 (by omega) (by have := FU_big; omega) ⟨h0, f0'⟩
    · intro n j s hj hI
      left
      obtain ⟨m', e, h1, h2⟩ := c_row (l := l) (v := v) (K := fX1_spread_31 n) hx hI.1
      refine ⟨m', ⟨h1, hI.2.tr h2⟩, ?_⟩
      rw [fX1_spread_31, if_neg (nI_ge hj (by omega)), e]
    · intro n s hI
      rw [fX1_spread_31, if_pos (nI_le (Nat.le_refl _) (by omega))]
      exact ⟨s, rfl, hI⟩
  rw [fX1_spread, grd_t O_o]
  refine lpR (fun n j (s : Nat → Nat → Int32) => fX1_spread_2 n 91 (nI v) (nI x) (nI j) (Mk s l)) (fun j s => (∀ t, t < j → s 92 t = nI (cs x 0 t)) ∧ F1 92 m s) (fun o => ∃ m', o = some (Mk m' l) ∧ (∀ t, t < 9 → m' 92 t = nI (cs x v t)) ∧ F1 92 m m') 9 ?_ ?_ FU 0 m (by decide) (by have := FU_big; omega) ⟨fun t ht => absurd ht (by omega), F1.rf⟩
  · intro n j s hj hI
    left
    obtain ⟨i1, i2⟩ := hI
    refine ⟨m2 s 92 j (nI (cs x 0 j)), ⟨fun t ht => ?_, i2.tr F1.st⟩, ?_⟩
    · by_cases z : t = j
      · rw [z, m2_at]
      · rw [m2_nk z]
        exact i1 t (by omega)
    · rw [fX1_spread_2, if_neg (by rw [show (8 : Int32) = nI 8 from rfl]; exact nI_nlt (by omega) (by omega)), O_r2, bS]
      by_cases z : j = 0
      · rw [z, if_pos (show nI 0 = 0 from rfl), b92 (by decide), bS, nI_1]
        rfl
      · rw [if_neg (nI_ne0 (by omega) (by omega)), b92 hj, bS, nI_1, cs, if_neg z]
        rfl
  · intro n s hI
    rw [fX1_spread_2, if_pos (by decide)]
    exact out s hI.1 hI.2
theorem sm_cut (f : Nat → Nat) {B : Nat} : ∀ {n : Nat}, B + 1 ≤ n → sm (fun t => if t ≤ B then f t else 0) n = sm f (B + 1)
  | 0, h => absurd h (by omega)
  | n + 1, h => by
    by_cases q : B = n
    · subst q
      exact sm_cong (fun k hk => if_pos (by omega))
    · rw [sm, sm_cut f (by omega), if_neg (by omega), Nat.add_zero]
theorem c_reckon {v x B : Nat} (hx : x ≤ 10) (hv : v ≤ 8) (hB : B ≤ 8) : ∃ m', fX1_reckon 91 (nI v) (nI x) (nI B) (Mk m l) = some (Mk m' l) ∧ m' 91 0 = nI (St x v B / Nat.gcd (10 ^ v) (St x v B)) ∧ m' 91 1 = nI (10 ^ v / Nat.gcd (10 ^ v) (St x v B)) ∧ ∀ c, c ≠ 91 → c ≠ 92 → m' c = m c := by
  obtain ⟨m1, e1, h1, f1⟩ := c_spread (m := m) (l := l) (v := v) hx hv
  have p8 : 10 ^ v ≤ 100000000 := by
    have := Nat.pow_le_pow_right (n := 10) (by decide) hv
    omega
  have p0 : 0 < 10 ^ v := Nat.pow_pos (by decide)
  have sl := St_le hx (v := v) (u := B)
  have gp : 0 < Nat.gcd (10 ^ v) (St x v B) := Nat.gcd_pos_of_pos_left _ p0
  have gl : Nat.gcd (10 ^ v) (St x v B) ≤ 10 ^ v := Nat.gcd_le_left _ p0
  rw [fX1_reckon, grd_t O_o, e1, bS]
  refine lpR (fun n j (s : Int32 × Int32) => fX1_reckon_15 n 91 (nI B) s.1 s.2 (nI j) (Mk m1 l)) (fun j s => s.1 = nI (sm (fun t => if t ≤ B then cs x v t else 0) j) ∧ s.2 = nI (sm (cs x v) j)) (fun o => ∃ m', o = some (Mk m' l) ∧ m' 91 0 = nI (St x v B / Nat.gcd (10 ^ v) (St x v B)) ∧ m' 91 1 = nI (10 ^ v / Nat.gcd (10 ^ v) (St x v B)) ∧ ∀ c, c ≠ 91 → c ≠ 92 → m' c = m c) 9 ?_ ?_ FU 0 (0, 0) (by decide) (by have := FU_big; omega) ⟨rfl, rfl⟩
  · intro n j s hj hI
    left
    obtain ⟨i1, i2⟩ := hI
    refine ⟨(nI (sm (fun t => if t ≤ B then cs x v t else 0) (j + 1)), nI (sm (cs x v) (j + 1))), ⟨rfl, rfl⟩, ?_⟩
    rw [fX1_reckon_15, if_neg (by rw [show (8 : Int32) = nI 8 from rfl]; exact nI_nlt (by omega) (by omega)), O_r2, bS, a92 hj, bS, h1 j hj, i1, i2, nI_add]
    by_cases q : j ≤ B
    · rw [if_neg (nI_nlt q (by omega)), bS, a92 hj, bS, h1 j hj, nI_add, nI_1]
      simp only [sm, if_pos q]
    · rw [if_pos (nI_lt (by omega) (by omega)), nI_1]
      simp only [sm, if_neg q, Nat.add_zero]
  · intro n s hI
    obtain ⟨i1, i2⟩ := hI
    have es : s.1 = nI (St x v B) := by rw [i1, sm_cut _ (by omega), St]
    have ea : s.2 = nI (10 ^ v) := by
      rw [i2, ← St_all hx hv, St]
    refine ⟨m2 (m2 m1 91 0 (nI (St x v B / Nat.gcd (10 ^ v) (St x v B)))) 91 1 (nI (10 ^ v / Nat.gcd (10 ^ v) (St x v B))), ?_, ?_, ?_, fun c z1 z2 => ?_⟩
    · rw [fX1_reckon_15, if_pos (by decide), es, ea, c_gcd p8 sl, bS]
      simp only [if_neg (nI_nle gp (show Nat.gcd (10 ^ v) (St x v B) < 2 ^ 31 by omega)), dvd_nI (show St x v B < 2 ^ 31 by omega) gp (show Nat.gcd (10 ^ v) (St x v B) < 2 ^ 31 by omega), dvd_nI (show 10 ^ v < 2 ^ 31 by omega) gp (show Nat.gcd (10 ^ v) (St x v B) < 2 ^ 31 by omega), bS, fX1_reckon_82, O_pI]
    · rw [m2_nk (by decide), m2_at]
    · rw [m2_at]
    · rw [m2_ne z1, m2_ne z1, f1 c z2]
end COb
