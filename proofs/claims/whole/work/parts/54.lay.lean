theorem itm_W {c : Nat → Nat} {i : Nat} {g : Gn} (hw : Wf g) {a : Gn × Nat} (h : itm c g i = some a) : Wf a.1 ∧ a.1 0 2 = g 0 2 := by
  unfold itm at h
  split at h
  · cases h1 : rd c (i + 1) 59 with
    | none => rw [h1] at h; exact absurd h (by simp)
    | some b =>
      rw [h1, Option.bind_some] at h
      split at h
      · cases h
        exact ⟨Wf_6 hw, rfl⟩
      · exact absurd h (by simp)
  · split at h
    · cases h1 : rd c (i + 1) 59 with
      | none => rw [h1] at h; exact absurd h (by simp)
      | some b =>
        rw [h1, Option.bind_some] at h
        split at h
        · rename_i hq
          cases h
          exact ⟨Wf_addP hw hq.2.1 hq.2.2, by show addP g b.1 0 2 = g 0 2; unfold addP; rw [m2_nk (by decide), m2_ne (by decide)]⟩
        · exact absurd h (by simp)
    · split at h
      · cases h1 : rd c (i + 1) 44 with
        | none => rw [h1] at h; exact absurd h (by simp)
        | some b =>
          rw [h1, Option.bind_some] at h
          cases h2 : rd c b.2 44 with
          | none => rw [h2] at h; exact absurd h (by simp)
          | some d =>
            rw [h2, Option.bind_some] at h
            cases h3 : rd c d.2 59 with
            | none => rw [h3] at h; exact absurd h (by simp)
            | some e =>
              rw [h3, Option.bind_some] at h
              split at h
              · rename_i hq
                cases h
                refine ⟨Wf_put (Wf_addH hw hq.1 hq.2.2.1 hq.2.2.2.1) (by rw [addH_1]; omega) (by rw [addH_0 (by decide)]; exact hq.2.2.2.2.1) ?_, by show put (addH g b.1 d.1) (g 0 1) e.1 0 2 = g 0 2; rw [put_c (by decide) (by decide), addH_0 (by decide)]⟩
                rw [addH_c (by decide) (by decide) (by decide)]
                exact porch hw.1 (Nat.le_refl _) hq.2.2.2.1
              · exact absurd h (by simp)
      · split at h
        · cases h1 : rd c (i + 1) 44 with
          | none => rw [h1] at h; exact absurd h (by simp)
          | some b =>
            rw [h1, Option.bind_some] at h
            cases h2 : rd c b.2 59 with
            | none => rw [h2] at h; exact absurd h (by simp)
            | some d =>
              rw [h2, Option.bind_some] at h
              split at h
              · rename_i hq
                cases h
                exact ⟨Wf_addH hw hq.1 hq.2.2.1 hq.2.2.2, addH_0 (g := g) (k := b.1) (w := d.1) (i := 2) (by decide)⟩
              · exact absurd h (by simp)
        · exact absurd h (by simp)
theorem scn_W {c : Nat → Nat} {n : Nat} : ∀ (u : Nat) (g : Gn) (i : Nat), Wf g → Wf (scn c n u g i).2 ∧ (scn c n u g i).2 0 2 = g 0 2
  | 0, g, _, hw => ⟨hw, rfl⟩
  | u + 1, g, i, hw => by
    rw [scn]
    by_cases q : n ≤ i
    · rw [if_pos q]
      exact ⟨hw, rfl⟩
    · rw [if_neg q]
      cases h : itm c g i with
      | none => exact ⟨hw, rfl⟩
      | some a =>
        have h1 := itm_W hw h
        have h2 := scn_W (c := c) (n := n) u a.1 a.2 h1.1
        exact ⟨h2.1, h2.2.trans h1.2⟩
section LYa
variable {m m' m1 : Nat → Nat → Int32} {l l' : Nat → Nat → Int64} {g : Gn} {n : Nat} {f : Nat → Int32} {c : Nat → Nat} {z : Zt}
theorem m_holds : ∃ m', fX7_holds 93 (Mk m l) = some (Mk m' l) ∧ MT 96 m' g00 ∧ MS m' g00 ∧ (∀ k, k < 21 → m' 101 k = m 97 k) ∧ ∀ c, c ≠ 96 → c ≠ 97 → c ≠ 101 → m' c = m c := by
  have h1 : ∃ m1, fX7_holds 93 (Mk m l) = fX7_holds_23 FU 93 0 (Mk m1 l) ∧ (∀ k, k < 56 → m1 96 k = 0) ∧ F1 96 m m1 := by
    rw [fX7_holds, grd_t M_o]
    refine lpR (fun u j (s : Nat → Nat → Int32) => fX7_holds_2 u 93 (nI j) (Mk s l)) (fun j s => (∀ k, k < j → s 96 k = 0) ∧ F1 96 m s) (fun o => ∃ m1, o = fX7_holds_23 FU 93 0 (Mk m1 l) ∧ (∀ k, k < 56 → m1 96 k = 0) ∧ F1 96 m m1) 56 ?_ ?_ FU 0 m (by decide) (by decide) ⟨fun k hk => absurd hk (by omega), F1.rf⟩
    · intro u j s hj hI
      left
      refine ⟨m2 s 96 j 0, ⟨fun k hk => ?_, F1.tr hI.2 F1.st⟩, ?_⟩
      · by_cases e : k = j
        · subst e
          rw [m2_at]
        · rw [m2_nk e]
          exact hI.1 k (by omega)
      · rw [fX7_holds_2, if_neg (by rw [show (56 : Int32) = nI 56 from rfl]; exact nI_ge hj (by decide))]
        simp only [M_r3, bS, b96 hj, nI_1]
    · intro u s hI
      refine ⟨s, ?_, hI⟩
      rw [fX7_holds_2, if_pos (by decide)]
  obtain ⟨m1, e1, z1, f1⟩ := h1
  rw [e1]
  refine lpR (fun u j (s : Nat → Nat → Int32) => fX7_holds_23 u 93 (nI j) (Mk s l)) (fun j s => (∀ k, k < j → s 101 k = m 97 k ∧ s 97 k = if 7 ≤ k ∧ k ≤ 13 then -1 else 0) ∧ (∀ k, j ≤ k → s 97 k = m 97 k) ∧ ∀ c, c ≠ 97 → c ≠ 101 → s c = m1 c) (fun o => ∃ m', o = some (Mk m' l) ∧ MT 96 m' g00 ∧ MS m' g00 ∧ (∀ k, k < 21 → m' 101 k = m 97 k) ∧ ∀ c, c ≠ 96 → c ≠ 97 → c ≠ 101 → m' c = m c) 21 ?_ ?_ FU 0 m1 (by decide) (by decide) ⟨fun k hk => absurd hk (by omega), fun k _ => by rw [f1 97 (by decide)], fun c _ _ => rfl⟩
  · intro u j s hj hI
    left
    obtain ⟨h1, h2, h3⟩ := hI
    have hgo : ∀ x : Int32, x = (if 7 ≤ j ∧ j ≤ 13 then -1 else 0) → (∀ k, k < j + 1 → m2 (m2 s 101 j (s 97 j)) 97 j x 101 k = m 97 k ∧ m2 (m2 s 101 j (s 97 j)) 97 j x 97 k = if 7 ≤ k ∧ k ≤ 13 then -1 else 0) ∧ (∀ k, j + 1 ≤ k → m2 (m2 s 101 j (s 97 j)) 97 j x 97 k = m 97 k) ∧ ∀ c, c ≠ 97 → c ≠ 101 → m2 (m2 s 101 j (s 97 j)) 97 j x c = m1 c := by
      intro x hx
      refine ⟨fun k hk => ?_, fun k hk => ?_, fun c q1 q2 => ?_⟩
      · rw [m2_ne (show 101 ≠ 97 by decide)]
        by_cases e : k = j
        · subst e
          rw [m2_at, m2_at, h2 k (Nat.le_refl _), hx]
          exact ⟨rfl, rfl⟩
        · rw [m2_nk e, m2_nk e, m2_ne (show 97 ≠ 101 by decide)]
          exact h1 k (by omega)
      · rw [m2_nk (by omega), m2_ne (by decide)]
        exact h2 k (by omega)
      · rw [m2_ne q1, m2_ne q2]
        exact h3 c q1 q2
    have hw13 : (nI j < 7 ∨ 13 < nI j) ↔ ¬ (7 ≤ j ∧ j ≤ 13) := wi (a := 7) (b := 13) (by omega) (by decide) (by decide)
    rw [fX7_holds_23, if_neg (by rw [show (21 : Int32) = nI 21 from rfl]; exact nI_ge hj (by decide))]
    simp only [M_r12, M_r4, bS, a97 hj, b101 hj, m_in, b97 hj, nI_1]
    by_cases q : 7 ≤ j ∧ j ≤ 13
    · rw [if_neg (fun e => hw13.mp e q), if_neg n0]
      exact ⟨_, hgo (-1) (by rw [if_pos q]), rfl⟩
    · rw [if_pos (hw13.mpr q), if_pos rfl]
      exact ⟨_, hgo 0 (by rw [if_neg q]), rfl⟩
  · intro u s hI
    obtain ⟨h1, h2, h3⟩ := hI
    rw [fX7_holds_23, if_pos (by decide)]
    have e96 : ∀ k, k < 56 → s 96 k = 0 := fun k hk => by rw [h3 96 (by decide) (by decide)]; exact z1 k hk
    refine ⟨s, rfl, ⟨e96 0 (by decide), e96 1 (by decide), fun h hh => ⟨e96 _ (by omega), e96 _ (by omega)⟩, fun y hy => ?_⟩, ⟨(h1 0 (by decide)).2, (h1 1 (by decide)).2, fun p hp => absurd hp (by simp [g00]), fun h hh => ⟨?_, fun h9 => absurd (by simp [g00]) h9⟩⟩, fun k hk => (h1 k hk).1, fun c q1 q2 q3 => by rw [h3 c q2 q3, f1 c q1]⟩
    · rw [e96 _ (by omega)]
      simp [g00]
    · rw [(h1 (7 + h) (by omega)).2, if_pos (by omega)]
      rfl
theorem m_scan (hl : Lt' n f c) : ∀ (u v i : Nat) (m : Nat → Nat → Int32) (g : Gn), n ≤ i + u → u < v → i ≤ n → MTx m n f → MS m g → MT 96 m g → Wf g → m 93 11 = nI i → ∃ m', fX7_readsAll_9 v 93 (Mk m l) = some ((scn c n (u + 1) g i).1, Mk m' l) ∧ ((scn c n (u + 1) g i).1 = -4 → MS m' (scn c n (u + 1) g i).2 ∧ MT 96 m' (scn c n (u + 1) g i).2) ∧ FT m m' := by
  have hn := hl.1
  have hend : ∀ (u v i : Nat) (m : Nat → Nat → Int32) (g : Gn), n ≤ i → i ≤ n → MTx m n f → MS m g → MT 96 m g → m 93 11 = nI i → ∃ m', fX7_readsAll_9 (v + 1) 93 (Mk m l) = some ((scn c n (u + 1) g i).1, Mk m' l) ∧ ((scn c n (u + 1) g i).1 = -4 → MS m' (scn c n (u + 1) g i).2 ∧ MT 96 m' (scn c n (u + 1) g i).2) ∧ FT m m' := by
    intro u v i m g h1 h2 h3 h4 h5 h6
    rw [scn, if_pos h1]
    refine ⟨m, ?_, fun _ => ⟨h4, h5⟩, FT.rf⟩
    rw [fX7_readsAll_9, M_gI, bS, M_gI, bS, h6, h3.1, if_pos (nI_le h1 (by omega))]
  intro u
  induction u with
  | zero =>
    intro v i m g h1 h2 h2' h3 h4 h5 h6 h7
    obtain ⟨v', rfl⟩ : ∃ v', v = v' + 1 := ⟨v - 1, by omega⟩
    exact hend 0 v' i m g h1 h2' h3 h4 h5 h7
  | succ u ih =>
    intro v i m g h1 h2 h2' h3 h4 h5 h6 h7
    obtain ⟨v', rfl⟩ : ∃ v', v = v' + 1 := ⟨v - 1, by omega⟩
    by_cases q : n ≤ i
    · exact hend (u + 1) v' i m g q h2' h3 h4 h5 h7
    · have hin : i < n := by omega
      have fa : Fa m (m2 m 93 11 (nI (i + 1))) := Fa.st
      have est : fX7_readsAll_9 (v' + 1) 93 (Mk m l) = (fX7_readsItem 93 (nI (c i)) (Mk (m2 m 93 11 (nI (i + 1))) l)).bind fun q20 => (if q20.1 = 0 then some (nI i, q20.2) else (fX7_readsAll_9 v') 93 q20.2) := by
        rw [fX7_readsAll_9, M_gI, bS, M_gI, bS, h7, h3.1, if_neg (nI_ge hin (by omega)), bS, bS, nI_1, M_pI, bS, M_r0, bS, a94 (by omega), bS, m2_ne (by decide), h3.2 i hin, (hl.2.1 i hin).2.2]
      rcases m_item (l := l) hl (MTx_FT h3 (FT_a fa)) (MS_Fa h4 fa) (MT_Fa (by decide) h5 fa) h6 (m2_at) hin with ⟨e, m', e1, f1⟩ | ⟨a, e, m', e1, s1, t1, hat, f1⟩
      · rw [scn, if_neg q, e]
        refine ⟨m', ?_, fun e4 => absurd e4.symm (n4_ne (by omega)), (FT_a fa).tr f1⟩
        rw [est, e1, bS, if_pos rfl]
      · rw [scn, if_neg q, e]
        have hgt := itm_gt hl e
        have hwa : Wf a.1 := (itm_W h6 e).1
        obtain ⟨m3, e3, h8, f3⟩ := ih v' a.2 m' a.1 (by omega) (by omega) hgt.2 (MTx_FT h3 ((FT_a fa).tr f1)) s1 t1 hwa hat
        refine ⟨m3, ?_, h8, (FT_a fa).tr (f1.tr f3)⟩
        rw [est, e1, bS, if_neg n0]
        exact e3
theorem m_readsAll (hl : Lt' n f c) (ht : MTx m n f) : ∃ m', fX7_readsAll 93 (Mk m l) = some ((scn c n (n + 1) g00 0).1, Mk m' l) ∧ ((scn c n (n + 1) g00 0).1 = -4 → MS m' (scn c n (n + 1) g00 0).2 ∧ MT 96 m' (scn c n (n + 1) g00 0).2) ∧ (∀ k, k < 21 → m' 101 k = m 97 k) ∧ (∀ c, c ≠ 93 → c ≠ 96 → c ≠ 97 → c ≠ 101 → m' c = m c) ∧ ∀ k, k ≠ 11 → m' 93 k = m 93 k := by
  have hn := hl.1
  obtain ⟨m1, e1, t1, s1, a1, f1⟩ := m_holds (m := m) (l := l)
  have fa : Fa m1 (m2 m1 93 11 (nI 0)) := Fa.st
  have ht1 : MTx m1 n f := by
    unfold MTx
    rw [f1 93 (by decide) (by decide) (by decide), f1 94 (by decide) (by decide) (by decide)]
    exact ht
  obtain ⟨m3, e3, h3, f3⟩ := m_scan (l := l) hl n FU 0 (m2 m1 93 11 (nI 0)) g00 (by omega) (by have := FU_big; omega) (by omega) (MTx_FT ht1 (FT_a fa)) (MS_Fa s1 fa) (MT_Fa (by decide) t1 fa) Wf_g00 m2_at
  have f4 := (FT_a fa).tr f3
  refine ⟨m3, ?_, h3, fun k hk => ?_, fun c q1 q2 q3 q4 => ?_, fun k hk => ?_⟩
  · rw [fX7_readsAll, grd_t M_o, e1, bS, M_pI, bS]
    exact e3
  · rw [f4.1 101 (by decide) (by decide) (by decide)]
    exact a1 k hk
  · rw [f4.1 c q1 q2 q3, f1 c q2 q3 q4]
  · rw [f4.2 k hk, f1 93 (by decide) (by decide) (by decide)]
end LYa
