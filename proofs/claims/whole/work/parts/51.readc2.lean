section RCb
variable {m m' m1 : Nat → Nat → Int32} {l l' : Nat → Nat → Int64} {g : Gn} {n : Nat} {f : Nat → Int32} {c : Nat → Nat} {z : Zt}
theorem c_clear : ∃ m' l', fX0_clear 10 (Mk m l) = some (Mk m' l') ∧ CG 10 m' l' g00 ∧ Fr 10 m m' ∧ FQl l l' := by
  rw [fX0_clear, grd_t (G_o isG_10)]
  simp only [G_pI isG_10, bS, G_pL isG_10]
  obtain ⟨m0, hm0⟩ : ∃ m0, m0 = m2 (m2 (m2 (m2 m 10 0 0) 10 1 0) 10 2 0) 10 3 0 := ⟨_, rfl⟩
  rw [← hm0]
  have f0 : Fr 10 m m0 := by
    rw [hm0]
    exact (Fr.st (Nat.le_refl _) (by omega)).tr ((Fr.st (Nat.le_refl _) (by omega)).tr ((Fr.st (Nat.le_refl _) (by omega)).tr (Fr.st (Nat.le_refl _) (by omega))))
  have k0 : ∀ k, k < 4 → m0 10 k = 0 := by
    intro k hk
    rw [hm0]
    have : k = 0 ∨ k = 1 ∨ k = 2 ∨ k = 3 := by omega
    rcases this with rfl | rfl | rfl | rfl <;> simp [m2]
  refine lpR (fun u j (s : Nat → Nat → Int32) => fX0_clear_27 u 10 (nI j) (Mk s (m2 l 10 4 0))) (fun j s => Fr 10 m s ∧ (∀ k, k < 4 → s 10 k = 0) ∧ ∀ h, h < j → s 12 h = 0 ∧ s 13 h = 0 ∧ s 14 h = -4 ∧ s 15 h = 0) (fun o => ∃ m' l', o = some (Mk m' l') ∧ CG 10 m' l' g00 ∧ Fr 10 m m' ∧ FQl l l') 7 ?_ ?_ FU 0 m0 (by decide) (by decide) ⟨f0, k0, fun h hh => absurd hh (by omega)⟩
  · intro u j s hj hI
    left
    obtain ⟨h1, h2, h3⟩ := hI
    refine ⟨m2 (m2 (m2 (m2 s 12 j 0) 13 j 0) 14 j (-4)) 15 j 0, ⟨?_, fun k hk => ?_, fun h hh => ?_⟩, ?_⟩
    · exact h1.tr ((Fr.st (by omega) (by omega)).tr ((Fr.st (by omega) (by omega)).tr ((Fr.st (by omega) (by omega)).tr (Fr.st (by omega) (by omega)))))
    · rw [m2_ne (by decide), m2_ne (by decide), m2_ne (by decide), m2_ne (by decide)]
      exact h2 k hk
    · rw [m2_ne (show 12 ≠ 15 by decide), m2_ne (show 12 ≠ 14 by decide), m2_ne (show 12 ≠ 13 by decide), m2_ne (show 13 ≠ 15 by decide), m2_ne (show 13 ≠ 14 by decide), m2_ne (show 14 ≠ 15 by decide)]
      by_cases e : h = j
      · subst e
        rw [m2_at, m2_at, m2_at, m2_at]
        exact ⟨rfl, rfl, rfl, rfl⟩
      · rw [m2_nk e, m2_nk e, m2_nk e, m2_nk e, m2_ne (show 13 ≠ 12 by decide), m2_ne (show 14 ≠ 13 by decide), m2_ne (show 14 ≠ 12 by decide), m2_ne (show 15 ≠ 14 by decide), m2_ne (show 15 ≠ 13 by decide), m2_ne (show 15 ≠ 12 by decide)]
        exact h3 h (by omega)
    · have b12 : ∀ (s' : Nat → Nat → Int32) (x : Int32), bI 8 (10 + 2) (nI j) x (Mk s' (m2 l 10 4 0)) = some (Mk (m2 s' 12 j x) (m2 l 10 4 0)) := fun s' x => G_b2 isG_10 hj
      have b13 : ∀ (s' : Nat → Nat → Int32) (x : Int32), bI 8 (10 + 3) (nI j) x (Mk s' (m2 l 10 4 0)) = some (Mk (m2 s' 13 j x) (m2 l 10 4 0)) := fun s' x => G_b3 isG_10 hj
      have b14 : ∀ (s' : Nat → Nat → Int32) (x : Int32), bI 8 (10 + 4) (nI j) x (Mk s' (m2 l 10 4 0)) = some (Mk (m2 s' 14 j x) (m2 l 10 4 0)) := fun s' x => G_b4 isG_10 hj
      have b15 : ∀ (s' : Nat → Nat → Int32) (x : Int32), bI 8 (10 + 5) (nI j) x (Mk s' (m2 l 10 4 0)) = some (Mk (m2 s' 15 j x) (m2 l 10 4 0)) := fun s' x => G_b5 isG_10 hj
      rw [fX0_clear_27, if_neg (by rw [show (7 : Int32) = nI 7 from rfl]; exact nI_ge hj (by decide))]
      simp only [G_r6 isG_10, G_r7 isG_10, G_r8 isG_10, G_r9 isG_10, bS, b12, b13, b14, b15, nI_1]
  · intro u s hI
    obtain ⟨h1, h2, h3⟩ := hI
    rw [fX0_clear_27, if_pos (by decide)]
    refine ⟨s, m2 l 10 4 0, rfl, ⟨fun k hk => ?_, fun p hp => absurd hp (by simp [g00]), fun h hh => ?_, fun y hy => ?_⟩, h1, fun c hc => m2_ne hc⟩
    · rw [h2 k hk]
      rfl
    · obtain ⟨a1, a2, a3, a4⟩ := h3 h hh
      exact ⟨a1, a2, a3, fun h9 => absurd (by simp [g00]) h9⟩
    · rw [m2_at]
      simp [g00]
theorem c_scan (hl : Lt' n f c) : ∀ (u v i : Nat) (m : Nat → Nat → Int32) (l : Nat → Nat → Int64) (g : Gn), n ≤ i + u → u < v → i ≤ n → CTx m n f → CG 10 m l g → Wf g → g 0 2 = 0 → ∃ m' l', fX3_readInto_6 v 1 10 (nI i) (Mk m l) = some ((scn c n (u + 1) g i).1, Mk m' l') ∧ ((scn c n (u + 1) g i).1 = -4 → CG 10 m' l' (scn c n (u + 1) g i).2 ∧ Wf (scn c n (u + 1) g i).2 ∧ (scn c n (u + 1) g i).2 0 2 = 0) ∧ FR m m' ∧ FQl l l' := by
  have hn := hl.1
  have hend : ∀ (u v i : Nat) (m : Nat → Nat → Int32) (l : Nat → Nat → Int64) (g : Gn), n ≤ i → i ≤ n → CTx m n f → CG 10 m l g → Wf g → g 0 2 = 0 → ∃ m' l', fX3_readInto_6 (v + 1) 1 10 (nI i) (Mk m l) = some ((scn c n (u + 1) g i).1, Mk m' l') ∧ ((scn c n (u + 1) g i).1 = -4 → CG 10 m' l' (scn c n (u + 1) g i).2 ∧ Wf (scn c n (u + 1) g i).2 ∧ (scn c n (u + 1) g i).2 0 2 = 0) ∧ FR m m' ∧ FQl l l' := by
    intro u v i m l g h1 h1' h2 h3 h4 h5
    rw [scn, if_pos h1]
    refine ⟨m, l, ?_, fun _ => ⟨h3, h4, h5⟩, FR.rf, FQl.rf⟩
    rw [fX3_readInto_6, T_gI, bS, h2.1, if_pos (nI_le h1 (by omega))]
  intro u
  induction u with
  | zero =>
    intro v i m l g h1 h2 h2' h3 h4 h5 h6
    obtain ⟨v', rfl⟩ : ∃ v', v = v' + 1 := ⟨v - 1, by omega⟩
    exact hend 0 v' i m l g h1 h2' h3 h4 h5 h6
  | succ u ih =>
    intro v i m l g h1 h2 h2' h3 h4 h5 h6
    obtain ⟨v', rfl⟩ : ∃ v', v = v' + 1 := ⟨v - 1, by omega⟩
    by_cases q : n ≤ i
    · exact hend (u + 1) v' i m l g q h2' h3 h4 h5 h6
    · rcases c_item (l := l) (u := v') hl h3 h4 h5 (show i < n by omega) with ⟨e, m', l', e1, f1, f2⟩ | ⟨a, e, hwa, hy, m', l', e1, g1, f1, f2⟩
      · rw [scn, if_neg q, e]
        exact ⟨m', l', e1, fun e4 => absurd e4.symm (n4_ne (by omega)), f1, f2⟩
      · rw [scn, if_neg q, e]
        have hgt := itm_gt hl e
        obtain ⟨m3, l3, e3, h7, f3, f4⟩ := ih v' a.2 m' l' a.1 (by omega) (by omega) hgt.2 (CTx_FR h3 f1) g1 hwa (by rw [hy]; exact h6)
        exact ⟨m3, l3, by rw [e1, e3], h7, f1.tr f3, f2.tr f4⟩
theorem c_readInto (hl : Lt' n f c) (ht : CTx m n f) : ∃ m' l', fX3_readInto 1 10 (Mk m l) = some ((scn c n (n + 1) g00 0).1, Mk m' l') ∧ ((scn c n (n + 1) g00 0).1 = -4 → CG 10 m' l' (scn c n (n + 1) g00 0).2 ∧ Wf (scn c n (n + 1) g00 0).2 ∧ (scn c n (n + 1) g00 0).2 0 2 = 0) ∧ FR m m' ∧ FQl l l' := by
  have hn := hl.1
  obtain ⟨m1, l1, e1, g1, f1, f2⟩ := c_clear (m := m) (l := l)
  obtain ⟨m3, l3, e3, h3, f3, f4⟩ := c_scan hl n FU 0 m1 l1 g00 (by omega) (by have := FU_big; omega) (by omega) (CTx_FR ht (FR_G f1)) g1 Wf_g00 rfl
  refine ⟨m3, l3, ?_, h3, (FR_G f1).tr f3, f2.tr f4⟩
  rw [fX3_readInto, grd_t T_o, e1, bS]
  exact e3
end RCb
