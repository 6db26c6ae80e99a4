/-! what is told stays -/
def Sm (g g' : Gn) : Prop := g' 0 0 = g 0 0 ∧ g' 0 1 = g 0 1 ∧ (∀ i, g' 2 i = g 2 i) ∧ (∀ i, g' 3 i = g 3 i) ∧ (∀ i, g' 6 i = g 6 i)
theorem Sm.rf {g : Gn} : Sm g g := ⟨rfl, rfl, fun _ => rfl, fun _ => rfl, fun _ => rfl⟩
theorem Sm.tr {g g1 g2 : Gn} (h : Sm g g1) (h2 : Sm g1 g2) : Sm g g2 := ⟨h2.1.trans h.1, h2.2.1.trans h.2.1, fun i => (h2.2.2.1 i).trans (h.2.2.1 i), fun i => (h2.2.2.2.1 i).trans (h.2.2.2.1 i), fun i => (h2.2.2.2.2 i).trans (h.2.2.2.2 i)⟩
theorem Sm.sy {g g1 : Gn} (h : Sm g g1) : Sm g1 g := ⟨h.1.symm, h.2.1.symm, fun i => (h.2.2.1 i).symm, fun i => (h.2.2.2.1 i).symm, fun i => (h.2.2.2.2 i).symm⟩
theorem Sm_m2 {g : Gn} {c k x : Nat} (h : (c = 0 ∧ k ≠ 0 ∧ k ≠ 1) ∨ c = 1 ∨ c = 4 ∨ c = 5) : Sm g (m2 g c k x) := by
  refine ⟨?_, ?_, fun i => ?_, fun i => ?_, fun i => ?_⟩ <;> (simp only [m2]; rw [if_neg (by omega)])
theorem Sm_put {g : Gn} {h p : Nat} : Sm g (put g h p) := (Sm_m2 (by omega)).tr (Sm_m2 (by omega))
theorem Sm_take {g : Gn} {h : Nat} : Sm g (take g h) := ⟨take_c (by decide) (by decide), take_c (by decide) (by decide), fun _ => take_c (by decide) (by decide), fun _ => take_c (by decide) (by decide), fun _ => take_c (by decide) (by decide)⟩
theorem Sm_y1 {g : Gn} : Sm g (y1 g) := ⟨y1_0 (by decide), y1_0 (by decide), fun _ => y1_c (by decide) (by decide), fun _ => y1_c (by decide) (by decide), fun _ => y1_c (by decide) (by decide)⟩
theorem Sm_yN {g : Gn} {n : Nat} : Sm g (yN g n) := ⟨yN_0 g (by decide) n, yN_0 g (by decide) n, fun _ => yN_c g (by decide) (by decide) n, fun _ => yN_c g (by decide) (by decide) n, fun _ => yN_c g (by decide) (by decide) n⟩
theorem MT_S {t : Nat} {m : Nat → Nat → Int32} {g g' : Gn} (h : MT t m g) (e : Sm g g') : MT t m g' := MT_g h e.1 e.2.1 e.2.2.1 e.2.2.2.1 e.2.2.2.2
/-- a year, with rabbits or without -/
def yb (b : Bool) (g : Gn) : Gn := if b then y1 g else m2 g 0 2 (g 0 2 + 1)
theorem Sm_yb {b : Bool} {g : Gn} : Sm g (yb b g) := by
  cases b
  · exact Sm_m2 (by omega)
  · exact Sm_y1
theorem Wf_yb {b : Bool} {g : Gn} (hw : Wf g) (hP : 0 < g 0 0) (hy : g 0 2 < 100000) : Wf (yb b g) := by
  cases b
  · exact Wf_0 hw (by decide) (by decide) (fun _ => by omega)
  · exact Wf_y1 hw hP hy
section MPa
variable {m : Nat → Nat → Int32} {l : Nat → Nat → Int64} {g : Gn}
theorem m_isFrost (hs : MS m g) (ht : MT 95 m g) (hw : Wb g) : fX7_isFrost 93 (Mk m l) = some (if fro g then 1 else 0, Mk m l) := by
  have hy := hw.2.2.1
  rw [fX7_isFrost, grd_t M_o]
  simp only [M_r4, M_r2, Option.bind_some, a97_0, hs.1, ad16]
  by_cases q : g 0 2 < 40
  · rw [if_neg (by rw [show (40 : Int32) = nI 40 from rfl]; exact nI_ge q (by omega)), a95 (by omega)]
    simp only [Option.bind_some, ht.2.2.2 _ q, fro, decide_eq_true q, Bool.true_and]
    by_cases q2 : g 6 (g 0 2) = 1
    · simp [q2]
    · simp [q2]
  · rw [if_pos (by rw [show (40 : Int32) = nI 40 from rfl]; exact nI_le (by omega) (by omega))]
    simp [fro, q]
theorem m_passes (hs : MS m g) (ht : MT 95 m g) (hw : Wf g) (hP : 0 < g 0 0) (b : Bool) : ∃ m', fX7_passes 93 (if b then 1 else 0) (Mk m l) = some (if (b && th g) = true then 1 else 0, Mk m' l) ∧ MS m' (yb b g) ∧ F1 97 m m' := by
  have hy := hw.1.2.2.1
  have hP5 := hw.1.1
  have hpm : g 0 2 % g 0 0 < g 0 0 := Nat.mod_lt _ hP
  rw [fX7_passes, grd_t M_o]
  simp only [M_r4, M_r2, Option.bind_some, a97_0, hs.1, a95_0, ht.1, rmd_nI (show g 0 2 < 2 ^ 31 by omega) hP (show g 0 0 < 2 ^ 31 by omega), m_topOf hs hw.1 hw.un (show g 0 2 % g 0 0 < 9 by omega), m_kindOf (Or.inl ⟨rfl, rfl⟩) ht (tp_le g _)]
  have tail : ∀ (m1 : Nat → Nat → Int32) (g1 : Gn) (v : Int32), MS m1 g1 → g1 0 2 = g 0 2 → (v = 0 ∨ v = 1) → fX7_passes_56 93 v (Mk m1 l) = some (v, Mk (m2 m1 97 0 (nI (g 0 2 + 1))) l) ∧ MS (m2 m1 97 0 (nI (g 0 2 + 1))) (m2 g1 0 2 (g 0 2 + 1)) := by
    intro m1 g1 v h1 h2 hv
    refine ⟨?_, MS_0 h1⟩
    rw [fX7_passes_56]
    simp only [M_r4, Option.bind_some, a97_0, h1.1, h2, nI_1, b97_0, grd_t hv]
  by_cases hth : (b && th g) = true
  · rw [Bool.and_eq_true] at hth
    obtain ⟨hb, hth⟩ := hth
    subst hb
    have h1 : tp g (g 0 2 % g 0 0) ≠ 7 ∧ (g 2 (tp g (g 0 2 % g 0 0)) = 0 ∨ g 2 (tp g (g 0 2 % g 0 0)) = 2) := by
      simpa [th] using hth
    have h7 := (tp_is h1.1).2.1
    have h4 := (tp_is h1.1).2.2.1
    obtain ⟨m1, e1, s1, f1⟩ := m_takes (l := l) hs hw.1 h7 (by rw [h4]; omega)
    obtain ⟨e2, s2⟩ := tail m1 _ 1 s1 (take_c (by decide) (by decide)) (Or.inr rfl)
    refine ⟨m2 m1 97 0 (nI (g 0 2 + 1)), ?_, ?_, F1.tr f1 F1.st⟩
    · simp only [if_neg h1.1, hth, if_true, if_neg (show ¬ (1 : Int32) = 0 by decide), Bool.and_self]
      rcases h1.2 with q | q
      · rw [if_pos (by rw [q]; rfl), fX7_passes_43, if_neg (by decide), e1, Option.bind_some, e2]
      · rw [if_neg (by rw [q]; decide), if_pos (by rw [q]; rfl), fX7_passes_43, if_neg (by decide), e1, Option.bind_some, e2]
    · rw [yb, if_pos rfl, y1_take hw hP, if_pos hth]
      exact s2
  · obtain ⟨e2, s2⟩ := tail m g 0 hs rfl (Or.inl rfl)
    refine ⟨m2 m 97 0 (nI (g 0 2 + 1)), ?_, ?_, F1.st⟩
    · rw [if_neg hth]
      cases b with
      | false =>
        simp only [Bool.false_eq_true, if_false, if_true]
        rw [fX7_passes_43, if_pos rfl, e2]
      | true =>
        simp only [if_true, if_neg (show ¬ (1 : Int32) = 0 by decide)]
        by_cases q7 : tp g (g 0 2 % g 0 0) = 7
        · simp only [q7, if_true]
          rw [if_neg (by decide), if_neg (by decide), fX7_passes_43, if_pos rfl, e2]
        · have hk := (hw.1.2.2.2.2 _ (tp_is q7).2.1).1
          have hn : ¬ g 2 (tp g (g 0 2 % g 0 0)) = 0 ∧ ¬ g 2 (tp g (g 0 2 % g 0 0)) = 2 := by
            simpa [th, q7] using hth
          simp only [if_neg q7]
          rw [if_neg (by rw [show (0 : Int32) = nI 0 from rfl, nI_inj (by omega) (by decide)]; exact hn.1), if_neg (by rw [show (2 : Int32) = nI 2 from rfl, nI_inj (by omega) (by decide)]; exact hn.2), fX7_passes_43, if_pos rfl, e2]
    · cases b with
      | false => exact s2
      | true =>
        have hth' : th g = false := by simpa using hth
        rw [yb, if_pos rfl, y1, hth']
        exact s2
theorem a101 {j : Nat} (hj : j < 21) : aI 8 101 (nI j) (Mk m l) = some (m 101 j) := shN (by decide) (by decide) (by exact hj)
theorem b101 {j : Nat} (hj : j < 21) {x : Int32} : bI 8 101 (nI j) x (Mk m l) = some (Mk (m2 m 101 j x) l) := shP (by decide) (by decide) (by exact hj)
theorem a106 {j : Nat} (hj : j < 21) : aI 8 106 (nI j) (Mk m l) = some (m 106 j) := shN (by decide) (by decide) (by exact hj)
theorem b106 {j : Nat} (hj : j < 21) {x : Int32} : bI 8 106 (nI j) x (Mk m l) = some (Mk (m2 m 106 j x) l) := shP (by decide) (by decide) (by exact hj)
/-- the row at a is copied to b, j of it -/
def Cp (a b : Nat) (m m' : Nat → Nat → Int32) (j : Nat) : Prop := (∀ k, k < j → m' b k = m a k) ∧ F1 b m m'
theorem Cp_0 {a b : Nat} : Cp a b m m 0 := ⟨fun _ h => absurd h (by omega), F1.rf⟩
theorem Cp_s {a b j : Nat} {m' : Nat → Nat → Int32} (hab : a ≠ b) (h : Cp a b m m' j) : Cp a b m (m2 m' b j (m' a j)) (j + 1) := by
  refine ⟨fun k hk => ?_, F1.tr h.2 F1.st⟩
  by_cases q : k = j
  · subst q
    rw [m2_at, h.2 a hab]
  · rw [m2_nk q]
    exact h.1 k (by omega)
theorem m_looks : ∃ m', fX7_looks 93 (Mk m l) = some (Mk m' l) ∧ Cp 97 101 m m' 21 := by
  rw [fX7_looks, grd_t M_o]
  refine lpR (fun n j (s : Nat → Nat → Int32) => fX7_looks_2 n 93 (nI j) (Mk s l)) (fun j s => Cp 97 101 m s j) (fun o => ∃ m', o = some (Mk m' l) ∧ Cp 97 101 m m' 21) 21 ?_ ?_ FU 0 m (by decide) (by decide) Cp_0
  · intro n j s hj hI
    left
    refine ⟨_, Cp_s (by decide) hI, ?_⟩
    rw [fX7_looks_2, if_neg (by rw [show (21 : Int32) = nI 21 from rfl]; exact nI_ge hj (by decide))]
    simp only [M_r12, M_r4, Option.bind_some, a97 hj, b101 hj, nI_1]
  · intro n s hI
    rw [fX7_looks_2, if_pos (by decide)]
    exact ⟨s, rfl, hI⟩
theorem m_lets : ∃ m', fX7_lets 93 (Mk m l) = some (Mk m' l) ∧ Cp 101 97 m m' 21 := by
  rw [fX7_lets, grd_t M_o]
  refine lpR (fun n j (s : Nat → Nat → Int32) => fX7_lets_2 n 93 (nI j) (Mk s l)) (fun j s => Cp 101 97 m s j) (fun o => ∃ m', o = some (Mk m' l) ∧ Cp 101 97 m m' 21) 21 ?_ ?_ FU 0 m (by decide) (by decide) Cp_0
  · intro n j s hj hI
    left
    refine ⟨_, Cp_s (by decide) hI, ?_⟩
    rw [fX7_lets_2, if_neg (by rw [show (21 : Int32) = nI 21 from rfl]; exact nI_ge hj (by decide))]
    simp only [M_r12, M_r4, Option.bind_some, a101 hj, b97 hj, nI_1]
  · intro n s hI
    rw [fX7_lets_2, if_pos (by decide)]
    exact ⟨s, rfl, hI⟩
theorem MR_looks {m' : Nat → Nat → Int32} (hs : MS m g) (hP : g 0 0 ≤ 5) (h : Cp 97 101 m m' 21) : MR (m' 101) g ∧ MS m' g := ⟨MR_eq hs hP h.1, by
  have : m' 97 = m 97 := h.2 97 (by decide)
  rw [MS_MR, this]
  exact hs⟩
theorem MS_lets {m' : Nat → Nat → Int32} (hs : MR (m 101) g) (hP : g 0 0 ≤ 5) (h : Cp 101 97 m m' 21) : MS m' g := MR_eq hs hP h.1
theorem m_mayPut (hs : MS m g) (ht : MT 95 m g) (hw : Wf g) {h p : Nat} (hh : h < 7) (hp : p < g 0 0) : fX7_mayPut 93 (nI h) (nI p) (Mk m l) = some (if g 4 h = 9 ∧ fit g (g 2 h) p = true then 1 else 0, Mk m l) := by
  rw [fX7_mayPut, grd_t M_o]
  simp only [M_r4, M_r2, Option.bind_some, ad7, a97 (show 7 + h < 21 by omega), (hs.2.2.2 h hh).1, plM_1 (pl_le hw.1 hh)]
  by_cases q : g 4 h = 9
  · rw [if_pos q]
    simp only [ad2, a95 (show 2 + h < 56 by omega), Option.bind_some, (ht.2.2.1 h hh).1, m_isFit (Or.inl ⟨rfl, rfl⟩) ht hs hw (hw.1.2.2.2.2 h hh).1 hp, q, true_and]
    by_cases q2 : fit g (g 2 h) p = true
    · simp [q2]
    · simp [q2]
  · rw [if_neg q, if_neg (fun e => q e.1)]
theorem m_has {x : Int32} {j : Nat} {μ : Mu} : fX7_has x (nI j) μ = some (if bitS x j then 1 else 0, μ) := by
  rw [fX7_has, bitS]
  by_cases q : (x >>> (nI j &&& 31)) &&& 1 = 1
  · simp [q]
  · simp [q]
theorem m_lyingAll (hs : MS m g) (ht : MT 95 m g) (hw : Wb g) : fX7_lyingAll 93 (Mk m l) = some (orN (fun h => !(g 4 h == 9)) (g 0 1), Mk m l) := by
  have h7 := hw.2.1
  rw [fX7_lyingAll, grd_t M_o]
  refine lpR (fun n j (s : Int32) => fX7_lyingAll_4 n 93 s (nI j) (Mk m l)) (fun j s => s = orN (fun h => !(g 4 h == 9)) j) (fun o => o = some (orN (fun h => !(g 4 h == 9)) (g 0 1), Mk m l)) (g 0 1) ?_ ?_ FU 0 0 (by omega) (by have := FU_big; omega) rfl
  · intro n j s hj hI
    left
    refine ⟨_, rfl, ?_⟩
    rw [fX7_lyingAll_4]
    simp only [M_r2, M_r4, Option.bind_some, a95_1, ht.2.1, if_neg (nI_ge hj (show g 0 1 < 2 ^ 31 by omega)), ad7, a97 (show 7 + j < 21 by omega), (hs.2.2.2 j (by omega)).1, plM_1 (pl_le hw (show j < 7 by omega)), nI_1, orN, hI]
    by_cases q : g 4 j = 9
    · simp [q]
    · simp [q]
  · intro n s hI
    rw [fX7_lyingAll_4]
    simp only [M_r2, Option.bind_some, a95_1, ht.2.1, if_pos (nI_le (Nat.le_refl (g 0 1)) (show g 0 1 < 2 ^ 31 by omega)), hI]
theorem m_aboveOf (hs : MS m g) (hw : Wb g) {h : Nat} (hh : h < 7) : fX7_aboveOf 93 (nI h) (Mk m l) = some (orN (ab g h) 7, Mk m l) := by
  rw [fX7_aboveOf, grd_t M_o]
  refine lpR (fun n j (s : Int32) => fX7_aboveOf_4 n 93 (nI h) s (nI j) (Mk m l)) (fun j s => s = orN (ab g h) j) (fun o => o = some (orN (ab g h) 7, Mk m l)) 7 ?_ ?_ FU 0 0 (by omega) (by have := FU_big; omega) rfl
  · intro n j s hj hI
    left
    refine ⟨_, rfl, ?_⟩
    rw [fX7_aboveOf_4]
    simp only [M_r4, Option.bind_some, if_neg (show ¬ (7 : Int32) ≤ nI j by rw [show (7 : Int32) = nI 7 from rfl]; exact nI_ge hj (by decide)), ad7, ad14, a97 (show 7 + j < 21 by omega), a97 (show 7 + h < 21 by omega), a97 (show 14 + j < 21 by omega), a97 (show 14 + h < 21 by omega), (hs.2.2.2 j (by omega)).1, (hs.2.2.2 h (by omega)).1, plM_1 (pl_le hw hh), nI_1, orN, hI, Int32.or_zero]
    by_cases q : g 4 h = 9
    · rw [if_pos q, if_neg (by simp [ab, q])]
    · have hb := (hw.2.2.2.2 h hh).2.2
      have hbj := (hw.2.2.2.2 j hj).2.2
      have hP5 := hw.1
      rw [if_neg q, show plM (g 4 h) = nI (g 4 h) by rw [plM, if_neg q]]
      by_cases q2 : g 4 j = g 4 h
      · rw [if_pos ((plM_eq (pl_le hw hj) (by omega)).mpr q2), (hs.2.2.2 j hj).2 (by omega), (hs.2.2.2 h hh).2 q]
        by_cases q3 : g 5 h < g 5 j
        · rw [if_neg (nI_ge q3 (by omega)), if_pos (ab_iff.mpr ⟨q, q2, q3⟩)]
        · rw [if_pos (nI_le (by omega) (by omega)), if_neg (fun e => q3 (ab_iff.mp e).2.2)]
      · rw [if_neg (fun e => q2 ((plM_eq (pl_le hw hj) (by omega)).mp e)), if_neg (fun e => q2 (ab_iff.mp e).2.1)]
  · intro n s hI
    rw [fX7_aboveOf_4, if_pos (by decide), hI]
theorem m_worthOf (ht : MT 95 m g) (hw : Wb g) (x : Int32) : fX7_worthOf 93 x (Mk m l) = some (nI (wS g x (g 0 1)), Mk m l) := by
  have h7 := hw.2.1
  rw [fX7_worthOf, grd_t M_o]
  refine lpR (fun n j (s : Int32) => fX7_worthOf_4 n 93 x s (nI j) (Mk m l)) (fun j s => s = nI (wS g x j)) (fun o => o = some (nI (wS g x (g 0 1)), Mk m l)) (g 0 1) ?_ ?_ FU 0 0 (by omega) (by have := FU_big; omega) rfl
  · intro n j s hj hI
    left
    refine ⟨_, rfl, ?_⟩
    rw [fX7_worthOf_4]
    simp only [M_r2, Option.bind_some, a95_1, ht.2.1, if_neg (nI_ge hj (show g 0 1 < 2 ^ 31 by omega)), m_has, ad9, a95 (show 9 + j < 56 by omega), (ht.2.2.1 j (by omega)).2, nI_1, hI, wS, sm]
    by_cases q : bitS x j = true
    · simp [q, nI_add]
    · simp [q]
  · intro n s hI
    rw [fX7_worthOf_4]
    simp only [M_r2, Option.bind_some, a95_1, ht.2.1, if_pos (nI_le (Nat.le_refl (g 0 1)) (show g 0 1 < 2 ^ 31 by omega)), hI]
theorem and1 (x : Int32) : x &&& 1 = if (x &&& 1 == 1) = true then 1 else 0 := by
  have h : ∀ b : BitVec 32, b &&& 1#32 = 1#32 ∨ b &&& 1#32 = 0#32 := by
    intro b
    have e : (b &&& 1#32).toNat = b.toNat % 2 := by
      rw [BitVec.toNat_and]
      exact Nat.and_one_is_mod _
    rcases Nat.mod_two_eq_zero_or_one b.toNat with q | q
    · right
      apply BitVec.eq_of_toNat_eq
      rw [e, q]
      rfl
    · left
      apply BitVec.eq_of_toNat_eq
      rw [e, q]
      rfl
  have h2 : x &&& 1 = 1 ∨ x &&& 1 = 0 := by
    rcases h x.toBitVec with q | q
    · left
      exact Int32.toBitVec_inj.mp q
    · right
      exact Int32.toBitVec_inj.mp q
  rcases h2 with q | q
  · simp [q]
  · simp [q]
theorem m_ones (x : Int32) (μ : Mu) : fX7_ones x μ = some (nI (ct (bitS x) 7), μ) := by
  rw [fX7_ones]
  refine lpR (fun n j (s : Int32) => fX7_ones_4 n x s (nI j) μ) (fun j s => s = nI (ct (bitS x) j)) (fun o => o = some (nI (ct (bitS x) 7), μ)) 7 ?_ ?_ FU 0 0 (by omega) (by have := FU_big; omega) rfl
  · intro n j s hj hI
    left
    refine ⟨_, rfl, ?_⟩
    rw [fX7_ones_4, if_neg (by rw [show (7 : Int32) = nI 7 from rfl]; exact nI_ge hj (by decide)), hI, nI_1, ct, and1, bitS]
    split
    · rw [nI_1]
    · rw [Int32.add_zero]
      rfl
  · intro n s hI
    rw [fX7_ones_4, if_pos (by decide), hI]
theorem m_stirs (hs : MS m g) (ht : MT 95 m g) (hw : Wb g) (x : Int32) : fX7_stirs 93 x (Mk m l) = some (nI (ct (bitS (abS g x (g 0 1) &&& (x ^^^ (-1)))) 7), Mk m l) := by
  have h7 := hw.2.1
  rw [fX7_stirs, grd_t M_o]
  refine lpR (fun n j (s : Int32) => fX7_stirs_4 n 93 x s (nI j) (Mk m l)) (fun j s => s = abS g x j) (fun o => o = some (nI (ct (bitS (abS g x (g 0 1) &&& (x ^^^ (-1)))) 7), Mk m l)) (g 0 1) ?_ ?_ FU 0 0 (by omega) (by have := FU_big; omega) rfl
  · intro n j s hj hI
    left
    refine ⟨_, rfl, ?_⟩
    rw [fX7_stirs_4]
    simp only [M_r2, Option.bind_some, a95_1, ht.2.1, if_neg (nI_ge hj (show g 0 1 < 2 ^ 31 by omega)), m_has, m_aboveOf hs hw (show j < 7 by omega), nI_1, hI, abS]
    by_cases q : bitS x j = true
    · simp [q]
    · simp [q]
  · intro n s hI
    rw [fX7_stirs_4]
    simp only [M_r2, Option.bind_some, a95_1, ht.2.1, if_pos (nI_le (Nat.le_refl (g 0 1)) (show g 0 1 < 2 ^ 31 by omega)), hI, m_ones]
end MPa
