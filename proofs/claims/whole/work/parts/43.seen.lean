/-! sightings: whether they all come true -/
def mis (g : Gn) (f : Nat → Nat → Nat) (i : Nat) : Bool := (yN g (f i 0) 4 (f i 1) == 9) != (f i 2 == 1)
def so (g : Gn) (n : Nat) (f : Nat → Nat → Nat) : Prop := ∀ i, i < n → mis g f i = false
def Sok (g : Gn) (n : Nat) (f : Nat → Nat → Nat) : Prop := n ≤ 6 ∧ ∀ i, i < n → f i 0 ≤ 20 ∧ f i 1 < g 0 1 ∧ f i 2 ≤ 1
section SEa
variable {m m' : Nat → Nat → Int32} {l l' : Nat → Nat → Int64} {g : Gn} {n : Nat} {f : Nat → Nat → Nat}
theorem c_inner (k2 : Nat → Nat → Int32 → Mu → Option (Int32 × Mu)) (hs : CSi m n f) (ho : Sok g n f) (hw : Wb g) (hP : 0 < g 0 0) {y : Nat} (hy : y ≤ 20) (hyy : g 0 2 + 21 ≤ 100000) (hc : CG 10 m l (yN g y)) :
    (fX5_comeTrueIn_10 k2 FU 80 10 (nI y) 0 (Mk m l) = some (0, Mk m l) ∧ ∃ i, i < n ∧ mis g f i = true) ∨ ((∀ i, i < n → f i 0 = y → mis g f i = false) ∧ ∃ m', fX5_comeTrueIn_10 k2 FU 80 10 (nI y) 0 (Mk m l) = k2 80 10 (nI (y + 1)) (Mk m' l) ∧ CG 10 m' l (yN g (y + 1)) ∧ Fr 10 m m') := by
  have hwy := yN_Wb hw y (by omega)
  have hn6 := ho.1
  refine lpR (fun n' j (_ : Unit) => fX5_comeTrueIn_10 k2 n' 80 10 (nI y) (nI j) (Mk m l)) (fun j _ => ∀ i, i < j → f i 0 = y → mis g f i = false) (fun o => (o = some (0, Mk m l) ∧ ∃ i, i < n ∧ mis g f i = true) ∨ ((∀ i, i < n → f i 0 = y → mis g f i = false) ∧ ∃ m', o = k2 80 10 (nI (y + 1)) (Mk m' l) ∧ CG 10 m' l (yN g (y + 1)) ∧ Fr 10 m m')) n ?_ ?_ FU 0 () (by omega) (by have := FU_big; omega) (fun i hi => absurd hi (by omega))
  · intro n' j s hj hI
    obtain ⟨ha, hh, hb⟩ := ho.2 j hj
    obtain ⟨e1, e2, e3⟩ := hs.2 j hj
    rw [fX5_comeTrueIn_10]
    simp only [P_gI, bS, hs.1, if_neg (nI_ge hj (show n < 2 ^ 31 by omega)), if_neg (show ¬ (6 : Int32) ≤ nI j by rw [show (6 : Int32) = nI 6 from rfl]; exact nI_ge (by omega) (by decide)), P_r1, P_r2, P_r3, a81 (show j < 6 by omega), a82 (show j < 6 by omega), a83 (show j < 6 by omega), e1, e2, e3, nI_inj (show f j 0 < 2 ^ 31 by omega) (show y < 2 ^ 31 by omega)]
    by_cases q : f j 0 = y
    · have hhy : f j 1 < yN g y 0 1 := by rw [yN_0 _ (by decide)]; exact hh
      simp only [if_pos q, c_lies isG_10 hc hwy hhy, bS, P_r3, a83 (show j < 6 by omega), e3]
      have hb2 : f j 2 = 0 ∨ f j 2 = 1 := by omega
      have hgo : mis g f j = false → ∀ i, i < j + 1 → f i 0 = y → mis g f i = false := by
        intro q2 i hi e
        by_cases qi : i = j
        · subst qi
          exact q2
        · exact hI i (by omega) e
      by_cases h9 : yN g y 4 (f j 1) = 9
      · have b9 : (yN g y 4 (f j 1) == 9) = true := by simpa using h9
        rw [if_pos h9]
        rcases hb2 with hb2 | hb2
        · right
          left
          refine ⟨?_, j, hj, by simp [mis, q, b9, hb2]⟩
          rw [hb2, if_pos (show (0 : Int32) = nI 0 from rfl)]
        · left
          refine ⟨(), hgo (by simp [mis, q, b9, hb2]), ?_⟩
          rw [hb2, if_neg (by decide), nI_1]
      · have b9 : (yN g y 4 (f j 1) == 9) = false := by simpa using h9
        rw [if_neg h9]
        rcases hb2 with hb2 | hb2
        · left
          refine ⟨(), hgo (by simp [mis, q, b9, hb2]), ?_⟩
          rw [hb2, if_neg (by decide), nI_1]
        · right
          left
          refine ⟨?_, j, hj, by simp [mis, q, b9, hb2]⟩
          rw [hb2, if_pos (show (1 : Int32) = nI 1 from rfl)]
    · left
      refine ⟨(), fun i hi e => ?_, ?_⟩
      · by_cases qi : i = j
        · subst qi
          exact absurd e q
        · exact hI i (by omega) e
      · rw [if_neg q, nI_1]
  · intro n' s hI
    right
    obtain ⟨r, m', e, g3, f3⟩ := c_pass1 isG_10 hc hwy (by rw [yN_0 _ (by decide)]; exact hP) (by rw [yN_y]; omega)
    refine ⟨hI, m', ?_, g3, f3⟩
    rw [fX5_comeTrueIn_10]
    simp only [P_gI, bS, hs.1, if_pos (nI_le (Nat.le_refl n) (show n < 2 ^ 31 by omega)), e, nI_1]
theorem c_comeTrueIn (hs : CSi m n f) (ho : Sok g n f) (hw : Wb g) (hP : 0 < g 0 0) (hyy : g 0 2 + 21 ≤ 100000) (hc : CG 10 m l g) : ∃ r m', fX5_comeTrueIn 80 10 (Mk m l) = some (r, Mk m' l) ∧ ((so g n f ∧ r = 1) ∨ (¬ so g n f ∧ r = 0)) ∧ Fr 10 m m' := by
  rw [fX5_comeTrueIn, grd_t P_o]
  refine lpR (fun n' j (s : Nat → Nat → Int32) => fX5_comeTrueIn_2 n' 80 10 (nI j) (Mk s l)) (fun j s => CG 10 s l (yN g j) ∧ Fr 10 m s ∧ ∀ i, i < n → f i 0 < j → mis g f i = false) (fun o => ∃ r m', o = some (r, Mk m' l) ∧ ((so g n f ∧ r = 1) ∨ (¬ so g n f ∧ r = 0)) ∧ Fr 10 m m') 21 ?_ ?_ FU 0 m (by omega) (by have := FU_big; omega) ⟨hc, Fr.rf, fun i _ h => absurd h (by omega)⟩
  · intro n' j s hj hI
    obtain ⟨h1, h2, h3⟩ := hI
    have hs' : CSi s n f := CSi_eq hs (fun c q1 q2 => h2 c (by omega))
    rw [fX5_comeTrueIn_2, if_neg (by rw [show (20 : Int32) = nI 20 from rfl]; exact Int32.not_lt.mpr (nI_le (by omega) (by decide)))]
    rcases c_inner (fX5_comeTrueIn_2 n') hs' ho hw hP (show j ≤ 20 by omega) hyy h1 with ⟨e, i, hi, hm⟩ | ⟨h4, m', e, h5, h6⟩
    · right
      refine ⟨0, s, e, Or.inr ⟨fun hso => ?_, rfl⟩, h2⟩
      rw [hso i hi] at hm
      exact absurd hm (by decide)
    · left
      refine ⟨m', ⟨h5, h2.tr h6, fun i hi hl => ?_⟩, e⟩
      by_cases q : f i 0 = j
      · exact h4 i hi q
      · exact h3 i hi (by omega)
  · intro n' s hI
    refine ⟨1, s, ?_, Or.inl ⟨fun i hi => hI.2.2 i hi (by have := (ho.2 i hi).1; omega), rfl⟩, hI.2.1⟩
    rw [fX5_comeTrueIn_2, if_pos (by decide)]
/-- only 97 and 106 have changed -/
def F2 (m m' : Nat → Nat → Int32) : Prop := ∀ c, c ≠ 97 → c ≠ 106 → m' c = m c
theorem F2.tr {m1 m2' : Nat → Nat → Int32} (h1 : F2 m m1) (h2 : F2 m1 m2') : F2 m m2' := fun c q1 q2 => (h2 c q1 q2).trans (h1 c q1 q2)
theorem F2_1 (h : F1 97 m m') : F2 m m' := fun c q1 _ => h c q1
/-- the row is let back from the trial -/
theorem m_so125 (k30 : Nat → Int32 → Int32 → Mu → Option (Int32 × Mu)) (v1 v2 : Int32) : ∃ m', fX7_isSo_125 k30 FU 93 v1 v2 0 (Mk m l) = k30 93 v1 (v2 + 1) (Mk m' l) ∧ Cp 106 97 m m' 21 := by
  refine lpR (fun n' j (s : Nat → Nat → Int32) => fX7_isSo_125 k30 n' 93 v1 v2 (nI j) (Mk s l)) (fun j s => Cp 106 97 m s j) (fun o => ∃ m', o = k30 93 v1 (v2 + 1) (Mk m' l) ∧ Cp 106 97 m m' 21) 21 ?_ ?_ FU 0 m (by decide) (by decide) Cp_0
  · intro n' j s hj hI
    left
    refine ⟨_, Cp_s (by decide) hI, ?_⟩
    rw [fX7_isSo_125, if_neg (by rw [show (21 : Int32) = nI 21 from rfl]; exact nI_ge hj (by decide))]
    simp only [M_r17, M_r4, bS, a106 hj, b97 hj, nI_1]
  · intro n' s hI
    refine ⟨s, ?_, hI⟩
    rw [fX7_isSo_125, if_pos (by decide)]
theorem m_so40 (k30 : Nat → Int32 → Int32 → Mu → Option (Int32 × Mu)) (hs : MS m g) (hr : MR (m 106) g) (ht : MT 95 m g) (hn : MSi m n f) (ho : Sok g n f) (hw : Wf g) (hP : 0 < g 0 0) (hyy : g 0 2 + 21 ≤ 100000) {i : Nat} (hi : i < n) (v1 : Int32) (hv : v1 = 0 ∨ v1 = 1) : ∃ m', fX7_isSo_40 k30 FU 93 v1 (nI i) 0 (Mk m l) = k30 93 (if mis g f i then 0 else v1) (nI (i + 1)) (Mk m' l) ∧ MS m' g ∧ F1 97 m m' := by
  obtain ⟨ha, hh, hb⟩ := ho.2 i hi
  have hn6 := ho.1
  have hN7 := hw.1.2.1
  refine lpR (fun n' j (s : Nat → Nat → Int32) => fX7_isSo_40 k30 n' 93 v1 (nI i) (nI j) (Mk s l)) (fun j s => MS s (yN g j) ∧ F1 97 m s) (fun o => ∃ m', o = k30 93 (if mis g f i then 0 else v1) (nI (i + 1)) (Mk m' l) ∧ MS m' g ∧ F1 97 m m') (f i 0) ?_ ?_ FU 0 m (by omega) (by have := FU_big; omega) ⟨hs, F1.rf⟩
  · intro n' j s hj hI
    left
    obtain ⟨h1, h2⟩ := hI
    obtain ⟨r, m', e, h3, h4⟩ := m_pass1 (l := l) h1 (MT_S (MT_F1 ht h2 (by decide)) Sm_yN) (Wf_yN hw hP j (by omega)) (by rw [yN_0 _ (by decide)]; exact hP)
    refine ⟨m', ⟨h3, h2.tr h4⟩, ?_⟩
    have e100 : s 100 (3 * i) = nI (f i 0) := by rw [h2 100 (by decide), (hn.2 i hi).1]
    rw [fX7_isSo_40]
    simp only [M_r9, bS, mu3, a100 (show 3 * i < 18 by omega), e100, if_neg (nI_ge hj (show f i 0 < 2 ^ 31 by omega)), e, nI_1]
  · intro n' s hI
    obtain ⟨h1, h2⟩ := hI
    have e100 : s 100 = m 100 := h2 100 (by decide)
    have hfin : ∀ (x : Int32), x = (if mis g f i then 0 else v1) → ∃ m', fX7_isSo_125 k30 FU 93 x (nI i) 0 (Mk s l) = k30 93 (if mis g f i then 0 else v1) (nI (i + 1)) (Mk m' l) ∧ MS m' g ∧ F1 97 m m' := by
      intro x hx
      obtain ⟨m', e, h3⟩ := m_so125 (m := s) (l := l) k30 x (nI i)
      refine ⟨m', by rw [e, hx, nI_1], MR_eq hr hw.1.1 (fun k hk => ?_), h2.tr h3.2⟩
      rw [h3.1 k hk, h2 106 (by decide)]
    have e0 : s 100 (3 * i) = nI (f i 0) := by rw [e100, (hn.2 i hi).1]
    rw [fX7_isSo_40]
    simp only [M_r9, bS, mu3, a100 (show 3 * i < 18 by omega), e0, if_pos (nI_le (Nat.le_refl (f i 0)) (show f i 0 < 2 ^ 31 by omega))]
    rcases hv with rfl | rfl
    · rw [if_pos rfl]
      exact hfin 0 (by split <;> rfl)
    · rw [if_neg n0]
      have e1 : s 100 (3 * i + 1) = nI (f i 1) := by rw [e100, (hn.2 i hi).2.1]
      have e2 : s 100 (3 * i + 2) = nI (f i 2) := by rw [e100, (hn.2 i hi).2.2]
      have q1 : nI (3 * i) + 1 = nI (3 * i + 1) := nI_1 _
      have q2 : nI (3 * i) + 2 = nI (3 * i + 2) := nI_add _ 2
      have hwN := yN_Wb hw.1 (f i 0) (by omega)
      simp only [M_r4, M_r9, bS, q1, a100 (show 3 * i + 1 < 18 by omega), e1, ad7, a97 (show 7 + f i 1 < 21 by omega), (h1.2.2.2 (f i 1) (by omega)).1, plM_1 (pl_le hwN (show f i 1 < 7 by omega)), fX7_isSo_95, mu3, q2, a100 (show 3 * i + 2 < 18 by omega), e2, fX7_isSo_114]
      have hb2 : f i 2 = 0 ∨ f i 2 = 1 := by omega
      by_cases h9 : yN g (f i 0) 4 (f i 1) = 9
      · rw [if_pos h9]
        rcases hb2 with hb2 | hb2
        · rw [hb2, if_neg (by decide), if_neg (by decide)]
          exact hfin 0 (by simp [mis, h9, hb2])
        · rw [hb2, if_pos (by decide), if_pos trivial]
          exact hfin 1 (by simp [mis, h9, hb2])
      · have b9 : (yN g (f i 0) 4 (f i 1) == 9) = false := by simpa using h9
        rw [if_neg h9]
        rcases hb2 with hb2 | hb2
        · rw [hb2, if_neg (by decide), if_pos trivial]
          exact hfin 1 (by simp [mis, b9, hb2])
        · rw [hb2, if_pos (by decide), if_neg (by decide)]
          exact hfin 0 (by simp [mis, b9, hb2])
theorem m_isSo (hs : MS m g) (ht : MT 95 m g) (hn : MSi m n f) (ho : Sok g n f) (hw : Wf g) (hP : 0 < g 0 0) (hyy : g 0 2 + 21 ≤ 100000) : ∃ r m', fX7_isSo 93 (Mk m l) = some (r, Mk m' l) ∧ ((so g n f ∧ r = 1) ∨ (¬ so g n f ∧ r = 0)) ∧ MS m' g ∧ F2 m m' := by
  have hn6 := ho.1
  have h1 : ∃ m1, fX7_isSo 93 (Mk m l) = fX7_isSo_30 FU 93 1 0 (Mk m1 l) ∧ Cp 97 106 m m1 21 := by
    rw [fX7_isSo, grd_t M_o]
    refine lpR (fun n' j (s : Nat → Nat → Int32) => fX7_isSo_2 n' 93 (nI j) (Mk s l)) (fun j s => Cp 97 106 m s j) (fun o => ∃ m', o = fX7_isSo_30 FU 93 1 0 (Mk m' l) ∧ Cp 97 106 m m' 21) 21 ?_ ?_ FU 0 m (by decide) (by decide) Cp_0
    · intro n' j s hj hI
      left
      refine ⟨_, Cp_s (by decide) hI, ?_⟩
      rw [fX7_isSo_2, if_neg (by rw [show (21 : Int32) = nI 21 from rfl]; exact nI_ge hj (by decide))]
      simp only [M_r17, M_r4, bS, a97 hj, b106 hj, nI_1]
    · intro n' s hI
      refine ⟨s, ?_, hI⟩
      rw [fX7_isSo_2, if_pos (by decide)]
  obtain ⟨m1, e1, c1⟩ := h1
  rw [e1]
  have s1 : MS m1 g := by
    rw [MS_MR, c1.2 97 (by decide)]
    exact hs
  have r1 : MR (m1 106) g := MR_eq hs hw.1.1 c1.1
  have f1 : F2 m m1 := fun c q1 q2 => c1.2 c q2
  refine lpR (fun n' j (s : Int32 × (Nat → Nat → Int32)) => fX7_isSo_30 n' 93 s.1 (nI j) (Mk s.2 l)) (fun j s => ((so g j f ∧ s.1 = 1) ∨ (¬ so g j f ∧ s.1 = 0)) ∧ MS s.2 g ∧ F1 97 m1 s.2) (fun o => ∃ r m', o = some (r, Mk m' l) ∧ ((so g n f ∧ r = 1) ∨ (¬ so g n f ∧ r = 0)) ∧ MS m' g ∧ F2 m m') n ?_ ?_ FU 0 (1, m1) (by omega) (by have := FU_big; omega) ⟨Or.inl ⟨fun i hi => absurd hi (by omega), rfl⟩, s1, F1.rf⟩
  · intro n' j s hj hI
    left
    obtain ⟨h2, h3, h4⟩ := hI
    have hv : s.1 = 0 ∨ s.1 = 1 := by
      rcases h2 with h | h
      · exact Or.inr h.2
      · exact Or.inl h.2
    have en : MSi s.2 n f := by
      unfold MSi
      rw [h4 93 (by decide), h4 100 (by decide), c1.2 93 (by decide), c1.2 100 (by decide)]
      exact hn
    obtain ⟨m', e, h5, h6⟩ := m_so40 (m := s.2) (l := l) (fX7_isSo_30 n') h3 (by rw [h4 106 (by decide)]; exact r1) (MT_F1 (MT_F1 ht c1.2 (by decide)) h4 (by decide)) en ho hw hP hyy hj s.1 hv
    refine ⟨(if mis g f j then 0 else s.1, m'), ⟨?_, h5, h4.tr h6⟩, ?_⟩
    · by_cases q : mis g f j = true
      · right
        refine ⟨fun hso => ?_, by rw [if_pos q]⟩
        have := hso j (by omega)
        rw [q] at this
        exact absurd this (by decide)
      · rw [if_neg q]
        rcases h2 with ⟨a, b⟩ | ⟨a, b⟩
        · left
          refine ⟨fun i hi => ?_, b⟩
          by_cases e : i = j
          · subst e
            simpa using q
          · exact a i (by omega)
        · right
          exact ⟨fun hso => a (fun i hi => hso i (by omega)), b⟩
    · rw [fX7_isSo_30]
      simp only [M_gI, bS, en.1, if_neg (nI_ge hj (show n < 2 ^ 31 by omega))]
      exact e
  · intro n' s hI
    obtain ⟨h2, h3, h4⟩ := hI
    have hv : s.1 = 0 ∨ s.1 = 1 := by
      rcases h2 with h | h
      · exact Or.inr h.2
      · exact Or.inl h.2
    have e93 : s.2 93 10 = nI n := by rw [h4 93 (by decide), c1.2 93 (by decide)]; exact hn.1
    refine ⟨s.1, s.2, ?_, h2, h3, f1.tr (F2_1 h4)⟩
    rw [fX7_isSo_30]
    simp only [M_gI, bS, e93, if_pos (nI_le (Nat.le_refl n) (show n < 2 ^ 31 by omega)), grd_t hv]
end SEa
