theorem tp_le (g : Gn) (p : Nat) : tp g p ≤ 7 := by
  rw [tp]
  split
  · omega
  · exact fd_le _ _ _
theorem tp_is {g : Gn} {p : Nat} (h : tp g p ≠ 7) : 0 < ht g p ∧ tp g p < 7 ∧ g 4 (tp g p) = p ∧ g 5 (tp g p) + 1 = ht g p := by
  have h2 := tp_le g p
  by_cases q : ht g p = 0
  · exact absurd (by rw [tp, if_pos q]) h
  · have e : tp g p = fd g p (ht g p - 1) := by rw [tp, if_neg q]
    have h3 : fd g p (ht g p - 1) < 7 := by omega
    have h4 := fd_is h3
    rw [← e] at h4
    omega
theorem tp_N {g : Gn} (hw : Wb g) {p : Nat} (hp : p < 9) (h : tp g p ≠ 7) : tp g p < g 0 1 := by
  have h2 := tp_is h
  have := (hw.2.2.2.2 _ h2.2.1).2.2
  omega
theorem c_isLoose {k : Nat} {μ : Mu} (hk : k < 4) : fX0_isLoose (nI k) μ = some (if k == 0 || k == 2 then 1 else 0, μ) := by
  rw [fX0_isLoose]
  have h2 : (nI k = 2) ↔ k = 2 := by rw [show (2 : Int32) = nI 2 from rfl]; exact nI_inj (by omega) (by omega)
  have h0 : (nI k = 0) ↔ k = 0 := by rw [show (0 : Int32) = nI 0 from rfl]; exact nI_inj (by omega) (by omega)
  simp only [h0, h2]
  by_cases q : k = 0
  · simp [q]
  · by_cases q2 : k = 2
    · simp [q2]
    · simp [q, q2]
theorem rmd_nI {x d : Nat} (hx : x < 2 ^ 31) (h0 : 0 < d) (hd : d < 2 ^ 31) : rmd (nI x) (nI d) = some (nI (x % d)) := by
  rw [rmd, grd_t (nI_ne0 h0 hd), pk_rem hx h0 hd]
theorem dvd_nI {x d : Nat} (hx : x < 2 ^ 31) (h0 : 0 < d) (hd : d < 2 ^ 31) : dvd (nI x) (nI d) = some (nI (x / d)) := by
  rw [dvd, grd_t (nI_ne0 h0 hd), pk_div hx h0 hd]
theorem y1_c {g : Gn} {c i : Nat} (h4 : c ≠ 4) (h0 : c ≠ 0) : y1 g c i = g c i := by
  rw [y1, m2_ne h0]
  split
  · rw [m2_ne h4]
  · rfl
theorem y1_0 {g : Gn} {k : Nat} (h2 : k ≠ 2) : y1 g 0 k = g 0 k := by
  rw [y1, m2_nk h2]
  split
  · rw [m2_ne (by decide)]
  · rfl
theorem y1_y {g : Gn} : y1 g 0 2 = g 0 2 + 1 := by rw [y1, m2_at]
theorem y1_4 {g : Gn} {i : Nat} : y1 g 4 i = if th g = true ∧ i = tp g (g 0 2 % g 0 0) then 9 else g 4 i := by
  rw [y1, m2_ne (by decide)]
  by_cases q : th g = true
  · rw [if_pos q]
    by_cases hi : i = tp g (g 0 2 % g 0 0)
    · rw [if_pos ⟨q, hi⟩, hi, m2_at]
    · rw [if_neg (fun z => hi z.2), m2_nk hi]
  · rw [if_neg q, if_neg (fun z => q z.1)]
theorem y1_Wb {g : Gn} (hw : Wb g) (hy : g 0 2 < 100000) : Wb (y1 g) := by
  refine ⟨by rw [y1_0 (by decide)]; exact hw.1, by rw [y1_0 (by decide)]; exact hw.2.1, by rw [y1_y]; omega, fun p hp => ?_, fun i hi => ?_⟩
  · rw [y1_0 (by decide)] at hp
    rw [y1_c (by decide) (by decide)]
    exact hw.2.2.2.1 p hp
  · have b := hw.2.2.2.2 i hi
    rw [y1_c (by decide) (by decide), y1_c (by decide) (by decide), y1_0 (by decide), y1_0 (by decide), y1_c (c := 5) (by decide) (by decide), y1_4]
    refine ⟨b.1, b.2.1, ?_⟩
    split
    · exact Or.inl rfl
    · exact b.2.2
theorem yN_0 (g : Gn) {k : Nat} (h2 : k ≠ 2) : ∀ n, yN g n 0 k = g 0 k
  | 0 => rfl
  | n + 1 => by rw [yN, y1_0 h2, yN_0 g h2 n]
theorem yN_c (g : Gn) {c i : Nat} (h4 : c ≠ 4) (h0 : c ≠ 0) : ∀ n, yN g n c i = g c i
  | 0 => rfl
  | n + 1 => by rw [yN, y1_c h4 h0, yN_c g h4 h0 n]
theorem yN_y (g : Gn) : ∀ n, yN g n 0 2 = g 0 2 + n
  | 0 => rfl
  | n + 1 => by rw [yN, y1_y, yN_y g n]; omega
theorem yN_Wb {g : Gn} (hw : Wb g) : ∀ n, g 0 2 + n ≤ 100000 → Wb (yN g n)
  | 0, _ => hw
  | n + 1, h => by
    rw [yN]
    exact y1_Wb (yN_Wb hw n (by omega)) (by rw [yN_y]; omega)
section CGy
variable {a : Nat} {m : Nat → Nat → Int32} {l : Nat → Nat → Int64} {g : Gn}
theorem c_rabbitPlot (ha : isG a) (hc : CG a m l g) (hw : Wb g) (hP : 0 < g 0 0) {y : Nat} (hy : y < 2 ^ 31) : fX0_rabbitPlot a (nI y) (Mk m l) = some (nI (y % g 0 0), Mk m l) := by
  have h5 := hw.1
  rw [fX0_rabbitPlot, grd_t (G_o ha), G_gI ha, Option.bind_some, hc.1 0 (by decide), if_neg (nI_nle hP (by omega)), Option.bind_some, rmd_nI hy hP (by omega)]
  rfl
/-- one year -/
theorem c_year (ha : isG a) (hc : CG a m l g) (hw : Wb g) (hP : 0 < g 0 0) (n : Nat) (v1 v2 : Int32) (j : Nat) (hj : ¬ v1 ≤ nI j) : ∃ m', fX0_passYears_4 (n + 1) a v1 v2 (nI j) (Mk m l) = fX0_passYears_4 n a v1 (v2 + nI (if th g then 1 else 0)) (nI (j + 1)) (Mk m' l) ∧ CG a m' l (y1 g) ∧ Fr a m m' := by
  have h5 := hw.1
  have hy := hw.2.2.1
  have hp := Nat.mod_lt (g 0 2) hP
  rw [fX0_passYears_4, if_neg hj, G_gI ha, Option.bind_some, hc.1 2 (by decide), c_rabbitPlot ha hc hw hP (by omega)]
  simp only [Option.bind_some, c_topOf ha hc hw hp]
  have key : ∀ (m1 : Nat → Nat → Int32) (g1 : Gn) (w : Int32), CG a m1 l g1 → g1 0 2 = g 0 2 → ∃ m', fX0_passYears_56 (fX0_passYears_4 n) a v1 w (nI j) (Mk m1 l) = fX0_passYears_4 n a v1 w (nI (j + 1)) (Mk m' l) ∧ CG a m' l (m2 g1 0 2 (g 0 2 + 1)) ∧ Fr a m1 m' := by
    intro m1 g1 w h1 h2
    refine ⟨m2 m1 a 2 (nI (g 0 2 + 1)), ?_, CG_0 h1 (by decide), Fr.st (by omega) (by omega)⟩
    rw [fX0_passYears_56, G_gI ha, Option.bind_some, h1.1 2 (by decide), h2, nI_1, G_pI ha, Option.bind_some, nI_1]
  by_cases ht7 : tp g (g 0 2 % g 0 0) = 7
  · have hth : th g = false := by simp [th, ht7]
    rw [if_pos ht7, c_hasHour0 ha hc hw (x := -4) (Or.inl (by decide)), Option.bind_some, if_pos rfl]
    obtain ⟨m', e1, e2, e3⟩ := key m g v2 hc rfl
    refine ⟨m', ?_, ?_, e3⟩
    · rw [e1, hth]
      simp [show nI 0 = (0 : Int32) from rfl]
    · rw [y1, hth]
      exact e2
  · have htN := tp_N hw (p := g 0 2 % g 0 0) (by omega) ht7
    have ht := tp_is ht7
    have hk4 := (hw.2.2.2.2 _ ht.2.1).1
    rw [if_neg ht7]
    simp only [c_hasHour ha hc hw htN, Option.bind_some, if_neg (show ¬ (1 : Int32) = 0 by decide), c_kindOf ha hc hw htN, c_isLoose hk4]
    by_cases q : (g 2 (tp g (g 0 2 % g 0 0)) == 0 || g 2 (tp g (g 0 2 % g 0 0)) == 2) = true
    · have hth : th g = true := by simp only [th, q]; simp [ht7]
      simp only [q, if_true, if_neg (show ¬ (1 : Int32) = 0 by decide), G_r8 ha, Option.bind_some, show (-4 : Int32) = plI 9 from rfl, G_b4 ha ht.2.1]
      obtain ⟨m', e1, e2, e3⟩ := key (m2 m (a + 4) (tp g (g 0 2 % g 0 0)) (plI 9)) (m2 g 4 (tp g (g 0 2 % g 0 0)) 9) (v2 + 1) (CG_4 hc (fun z => absurd rfl z)) (by rw [m2_ne (by decide)])
      refine ⟨m', ?_, ?_, Fr.tr (Fr.st (by omega) (by omega)) e3⟩
      · rw [e1, hth]
        rfl
      · rw [y1, hth]
        exact e2
    · simp only [Bool.not_eq_true] at q
      have hth : th g = false := by simp only [th, q]; simp
      simp only [q, Bool.false_eq_true, if_false, if_true]
      obtain ⟨m', e1, e2, e3⟩ := key m g v2 hc rfl
      refine ⟨m', ?_, ?_, e3⟩
      · rw [e1, hth]
        simp [show nI 0 = (0 : Int32) from rfl]
      · rw [y1, hth]
        exact e2
theorem c_passYears (ha : isG a) (hc : CG a m l g) (hw : Wb g) (hP : 0 < g 0 0) {N : Nat} (hN : N ≤ 1000) (hy : g 0 2 + N ≤ 100000) : ∃ m', fX0_passYears a (nI N) (Mk m l) = some (nI (tN g N), Mk m' l) ∧ CG a m' l (yN g N) ∧ Fr a m m' := by
  rw [fX0_passYears, grd_t (G_o ha)]
  refine lpR (fun n j (s : Int32 × (Nat → Nat → Int32)) => fX0_passYears_4 n a (nI N) s.1 (nI j) (Mk s.2 l)) (fun j s => s.1 = nI (tN g j) ∧ CG a s.2 l (yN g j) ∧ Fr a m s.2) (fun o => ∃ m', o = some (nI (tN g N), Mk m' l) ∧ CG a m' l (yN g N) ∧ Fr a m m') N ?_ ?_ FU 0 (0, m) (by omega) (by have := FU_big; omega) ⟨rfl, hc, Fr.rf⟩
  · intro n j s hj hI
    left
    obtain ⟨h1, h2, h3⟩ := hI
    obtain ⟨m', e1, e2, e3⟩ := c_year ha h2 (yN_Wb hw j (by omega)) (by rw [yN_0 g (by decide)]; exact hP) n (nI N) s.1 j (nI_ge hj (by omega))
    refine ⟨(nI (tN g (j + 1)), m'), ⟨rfl, e2, Fr.tr h3 e3⟩, ?_⟩
    rw [e1, h1, nI_add]
    rfl
  · intro n s hI
    obtain ⟨h1, h2, h3⟩ := hI
    refine ⟨s.2, ?_, h2, h3⟩
    rw [fX0_passYears_4, if_pos (nI_le (Nat.le_refl _) (by omega)), h1]
end CGy
