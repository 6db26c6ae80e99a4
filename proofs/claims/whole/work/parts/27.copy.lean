theorem isG_le {a : Nat} (h : isG a) : a ≤ 74 := by
  rcases h with rfl | rfl | rfl | rfl | rfl | rfl | rfl | rfl | rfl | rfl | rfl | rfl <;> decide
theorem isG_ap {a b : Nat} (ha : isG a) (hb : isG b) (h : a ≠ b) : a + 5 < b ∨ b + 5 < a := by
  unfold isG at hb
  rcases ha with rfl | rfl | rfl | rfl | rfl | rfl | rfl | rfl | rfl | rfl | rfl | rfl <;> omega
section CGc
variable {a b : Nat} {m : Nat → Nat → Int32} {l : Nat → Nat → Int64} {g : Gn}
theorem c_copyFrom (ha : isG a) (hb : isG b) (hab : a ≠ b) (hc : CG b m l g) (hP : g 0 0 ≤ 5) : ∃ m' l', fX0_copyFrom a b (Mk m l) = some (Mk m' l') ∧ CG a m' l' g ∧ Fr a m m' ∧ l' = m2 l a 4 (l b 4) := by
  have hap := isG_ap ha hb hab
  rw [fX0_copyFrom, grd_t (G_o ha)]
  simp only [G_gI hb, G_pI ha, G_gL hb, G_pL ha, Option.bind_some]
  have e : ∀ (m0 : Nat → Nat → Int32), Fr a m m0 → ∀ c, b ≤ c → c ≤ b + 5 → m0 c = m c := fun m0 h c h1 h2 => h c (by omega)
  obtain ⟨m1, hm1⟩ : ∃ m1, m1 = m2 (m2 (m2 (m2 m a 0 (m b 0)) a 1 (m2 m a 0 (m b 0) b 1)) a 2 (m2 (m2 m a 0 (m b 0)) a 1 (m2 m a 0 (m b 0) b 1) b 2)) a 3 (m2 (m2 (m2 m a 0 (m b 0)) a 1 (m2 m a 0 (m b 0) b 1)) a 2 (m2 (m2 m a 0 (m b 0)) a 1 (m2 m a 0 (m b 0) b 1) b 2) b 3) := ⟨_, rfl⟩
  rw [← hm1]
  have hba : b ≠ a := fun q => hab q.symm
  have f1 : Fr a m m1 := by
    rw [hm1]
    exact Fr.tr (Fr.st (Nat.le_refl _) (by omega)) (Fr.tr (Fr.st (Nat.le_refl _) (by omega)) (Fr.tr (Fr.st (Nat.le_refl _) (by omega)) (Fr.st (Nat.le_refl _) (by omega))))
  have k1 : ∀ k, k < 4 → m1 a k = m b k := by
    intro k hk
    rw [hm1]
    have : k = 0 ∨ k = 1 ∨ k = 2 ∨ k = 3 := by omega
    rcases this with rfl | rfl | rfl | rfl <;> simp [m2, hba]
  have fin : ∀ (s : Nat → Nat → Int32), Fr a m s → (∀ k, k < 4 → s a k = m b k) → (∀ p, p < 5 → s (a + 1) p = m (b + 1) p) → ∃ m' l', fX0_copyFrom_67 FU a b 0 (Mk s (m2 l a 4 (l b 4))) = some (Mk m' l') ∧ CG a m' l' g ∧ Fr a m m' ∧ l' = m2 l a 4 (l b 4) := by
    intro s0 fs0 ks0 ps0
    refine lpR (fun n j (s : Nat → Nat → Int32) => fX0_copyFrom_67 n a b (nI j) (Mk s (m2 l a 4 (l b 4)))) (fun j s => Fr a m s ∧ (∀ k, k < 4 → s a k = m b k) ∧ (∀ p, p < 5 → s (a + 1) p = m (b + 1) p) ∧ ∀ h, h < j → s (a + 2) h = m (b + 2) h ∧ s (a + 3) h = m (b + 3) h ∧ s (a + 4) h = m (b + 4) h ∧ s (a + 5) h = m (b + 5) h) (fun o => ∃ m' l', o = some (Mk m' l') ∧ CG a m' l' g ∧ Fr a m m' ∧ l' = m2 l a 4 (l b 4)) 7 ?_ ?_ FU 0 s0 (by decide) (by decide) ⟨fs0, ks0, ps0, fun h hh => absurd hh (by omega)⟩
    · intro n j s hj hI
      left
      obtain ⟨f, ks, ps, hs⟩ := hI
      refine ⟨m2 (m2 (m2 (m2 s (a + 2) j (m (b + 2) j)) (a + 3) j (m (b + 3) j)) (a + 4) j (m (b + 4) j)) (a + 5) j (m (b + 5) j), ⟨?_, ?_, ?_, ?_⟩, ?_⟩
      · exact Fr.tr f (Fr.tr (Fr.st (by omega) (by omega)) (Fr.tr (Fr.st (by omega) (by omega)) (Fr.tr (Fr.st (by omega) (by omega)) (Fr.st (by omega) (by omega)))))
      · intro k hk
        rw [m2_ne (by omega), m2_ne (by omega), m2_ne (by omega), m2_ne (by omega)]
        exact ks k hk
      · intro p hp
        rw [m2_ne (by omega), m2_ne (by omega), m2_ne (by omega), m2_ne (by omega)]
        exact ps p hp
      · intro h hh
        by_cases q : h = j
        · subst q
          refine ⟨?_, ?_, ?_, ?_⟩
          · rw [m2_ne (by omega), m2_ne (by omega), m2_ne (by omega), m2_at]
          · rw [m2_ne (by omega), m2_ne (by omega), m2_at]
          · rw [m2_ne (by omega), m2_at]
          · rw [m2_at]
        · obtain ⟨w1, w2, w3, w4⟩ := hs h (by omega)
          refine ⟨?_, ?_, ?_, ?_⟩
          · rw [m2_ne (by omega), m2_ne (by omega), m2_ne (by omega), m2_nk q]; exact w1
          · rw [m2_ne (by omega), m2_ne (by omega), m2_nk q, m2_ne (by omega)]; exact w2
          · rw [m2_ne (by omega), m2_nk q, m2_ne (by omega), m2_ne (by omega)]; exact w3
          · rw [m2_nk q, m2_ne (by omega), m2_ne (by omega), m2_ne (by omega)]; exact w4
      · rw [fX0_copyFrom_67, if_neg (by rw [show (7 : Int32) = nI 7 from rfl]; exact nI_ge hj (by decide))]
        simp only [G_r6 ha, G_r6 hb, G_r7 ha, G_r7 hb, G_r8 ha, G_r8 hb, G_r9 ha, G_r9 hb, Option.bind_some, G_a2 hb hj, G_a3 hb hj, G_a4 hb hj, G_a5 hb hj, G_b2 ha hj, G_b3 ha hj, G_b4 ha hj, G_b5 ha hj, nI_1]
        rw [m2_ne (c' := b + 5) (by omega), m2_ne (c' := b + 5) (by omega), m2_ne (c' := b + 5) (by omega), m2_ne (c' := b + 4) (by omega), m2_ne (c' := b + 4) (by omega), m2_ne (c' := b + 3) (by omega), f (b + 2) (by omega), f (b + 3) (by omega), f (b + 4) (by omega), f (b + 5) (by omega)]
    · intro n s hI
      obtain ⟨f, ks, ps, hs⟩ := hI
      refine ⟨s, m2 l a 4 (l b 4), ?_, ⟨fun k hk => ?_, fun p hp => ?_, fun h hh => ?_, fun y hy => ?_⟩, f, rfl⟩
      · rw [fX0_copyFrom_67, if_pos (by decide)]
      · rw [ks k hk]; exact hc.1 k hk
      · rw [ps p (by omega)]; exact hc.2.1 p hp
      · obtain ⟨w1, w2, w3, w4⟩ := hs h hh
        rw [w1, w2, w3, w4]
        exact hc.2.2.1 h hh
      · rw [m2_at]
        exact hc.2.2.2 y hy
  refine lpR (fun n j (s : Nat → Nat → Int32) => fX0_copyFrom_42 n a b (nI j) (Mk s (m2 l a 4 (l b 4)))) (fun j s => Fr a m s ∧ (∀ k, k < 4 → s a k = m b k) ∧ (∀ p, p < j → s (a + 1) p = m (b + 1) p)) (fun o => ∃ m' l', o = some (Mk m' l') ∧ CG a m' l' g ∧ Fr a m m' ∧ l' = m2 l a 4 (l b 4)) 5 ?_ ?_ FU 0 m1 (by decide) (by decide) ⟨f1, k1, fun p hp => absurd hp (by omega)⟩
  · intro n j s hj hI
    left
    obtain ⟨f, ks, ps⟩ := hI
    refine ⟨m2 s (a + 1) j (m (b + 1) j), ⟨Fr.tr f (Fr.st (by omega) (by omega)), ?_, ?_⟩, ?_⟩
    · intro k hk
      rw [m2_ne (by omega)]
      exact ks k hk
    · intro p hp
      by_cases q : p = j
      · subst q
        rw [m2_at]
      · rw [m2_nk q]
        exact ps p (by omega)
    · rw [fX0_copyFrom_42, if_neg (by rw [show (5 : Int32) = nI 5 from rfl]; exact nI_ge hj (by decide))]
      simp only [G_r5 ha, G_r5 hb, Option.bind_some, G_a1 hb hj, G_b1 ha hj, nI_1]
      rw [f (b + 1) (by omega)]
  · intro n s hI
    obtain ⟨f, ks, ps⟩ := hI
    rw [fX0_copyFrom_42, if_pos (by decide)]
    exact fin s f ks ps
end CGc
