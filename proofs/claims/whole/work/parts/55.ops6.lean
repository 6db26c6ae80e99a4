theorem Lt_z {z : Zt} (hz : Zok z) : ∃ c, Lt' (ztn z) (ztf z) c := by
  refine ⟨fun i => if i < ztn z then (ztf z i).toInt.toNat else 0, hz.2.2.2.1.1, fun i hi => ?_, fun i hi => if_neg (by omega)⟩
  obtain ⟨k, h1, h2, h3⟩ := hz.2.2.2.1.2 i hi
  have e : (if i < ztn z then (ztf z i).toInt.toNat else 0) = k := by
    rw [if_pos hi, h3, nI_toInt (by omega)]
    omega
  show 32 ≤ (if i < ztn z then (ztf z i).toInt.toNat else 0) ∧ (if i < ztn z then (ztf z i).toInt.toNat else 0) ≤ 126 ∧ ztf z i = nI (if i < ztn z then (ztf z i).toInt.toNat else 0)
  rw [e]
  exact ⟨h1, h2, h3⟩
/-- after a reading that is let go, the model is as it was -/
theorem m_letgo {z : Zt} {m m1 : Nat → Nat → Int32} {l : Nat → Nat → Int64} (hz : Zok z) (hc : MI z m) (h1 : ∀ k, k < 21 → m1 101 k = m 97 k) (h2 : ∀ c, c ≠ 93 → c ≠ 96 → c ≠ 97 → c ≠ 101 → m1 c = m c) (h3 : ∀ k, k ≠ 11 → m1 93 k = m 93 k) : ∃ m', fX7_lets 93 (Mk m1 l) = some (Mk m' l) ∧ MI z m' ∧ ∀ c, c < 93 → m' c = m c := by
  obtain ⟨m', e, c1⟩ := m_lets (m := m1) (l := l)
  have hP := hz.1.1.1.1
  have e93 : ∀ k, k ≠ 11 → m' 93 k = m 93 k := fun k hk => by rw [c1.2 93 (by decide), h3 k hk]
  have ec : ∀ c, c ≠ 93 → c ≠ 96 → c ≠ 97 → c ≠ 101 → m' c = m c := fun c q1 q2 q3 q4 => by rw [c1.2 c q3, h2 c q1 q2 q3 q4]
  obtain ⟨h4, h5, h6, h7, h8⟩ := hc
  refine ⟨m', e, ⟨⟨?_, ?_⟩, MRw_eq h5 (e93 6 (by decide)) (ec 98 (by decide) (by decide) (by decide) (by decide)), MRw_eq h6 (e93 8 (by decide)) (ec 99 (by decide) (by decide) (by decide) (by decide)), ?_, ?_⟩, fun c hc => ec c (by omega) (by omega) (by omega) (by omega)⟩
  · unfold MT
    rw [ec 95 (by decide) (by decide) (by decide) (by decide)]
    exact h4.1
  · exact MR_eq h4.2 hP (fun k hk => by rw [c1.1 k hk, h1 k hk])
  · unfold MTx
    rw [e93 1 (by decide), ec 94 (by decide) (by decide) (by decide) (by decide)]
    exact h7
  · unfold MSi
    rw [e93 10 (by decide), ec 100 (by decide) (by decide) (by decide) (by decide)]
    exact h8
theorem op_fault : Op (fX6_fault 0) (fX7_fault 93) := by
  intro z hz
  obtain ⟨c, hl⟩ := Lt_z hz
  refine ⟨(scn c (ztn z) (ztn z + 1) g00 0).1, z, fun m l hc => ?_, fun m l hc => ?_, hz⟩
  · obtain ⟨m1, l1, e1, _, f1, f2⟩ := c_readInto (l := l) hl hc.2.2.2.1
    refine ⟨m1, l1, ?_, CI_FR hc f1 f2, fun c hc => f1 c (by omega) (by omega)⟩
    rw [fX6_fault, grd_t X_o, X_r0, bS, X_r2, bS, e1, bS]
  · obtain ⟨m1, e1, _, h1, h2, h3⟩ := m_readsAll (l := l) hl hc.2.2.2.1
    obtain ⟨m', e, h4, h5⟩ := m_letgo (l := l) hz hc h1 h2 h3
    refine ⟨m', ?_, h4, h5⟩
    rw [fX7_fault, grd_t M_o, e1, bS, e, bS]
theorem op_lay_no {z : Zt} (hz : Zok z) {c : Nat → Nat} (hl : Lt' (ztn z) (ztf z) c) (h : ¬ ((scn c (ztn z) (ztn z + 1) g00 0).1 = -4 ∧ (scn c (ztn z) (ztn z + 1) g00 0).2 0 0 ≠ 0 ∧ (scn c (ztn z) (ztn z + 1) g00 0).2 0 1 ≠ 0)) : C6 (fX6_lay 0) z (-2) z ∧ C7 (fX7_lay 93) z (-2) z := by
  refine ⟨fun m l hc => ?_, fun m l hc => ?_⟩
  · obtain ⟨m1, l1, e1, h1, f1, f2⟩ := c_readInto (l := l) hl hc.2.2.2.1
    refine ⟨m1, l1, ?_, CI_FR hc f1 f2, fun c hc => f1 c (by omega) (by omega)⟩
    rw [fX6_lay, grd_t X_o, X_r0, bS, X_r2, bS, e1, bS]
    by_cases q : (scn c (ztn z) (ztn z + 1) g00 0).1 = -4
    · obtain ⟨h2, h3, _⟩ := h1 q
      have h5 := h3.1.1
      have h7 := h3.1.2.1
      rw [if_pos q, X_r2, bS, G_gI isG_10, bS, h2.1 0 (by decide)]
      by_cases q2 : (scn c (ztn z) (ztn z + 1) g00 0).2 0 0 = 0
      · rw [q2, if_pos (show nI 0 = 0 from rfl)]
      · have q3 : (scn c (ztn z) (ztn z + 1) g00 0).2 0 1 = 0 := by
          by_cases e : (scn c (ztn z) (ztn z + 1) g00 0).2 0 1 = 0
          · exact e
          · exact absurd ⟨q, q2, e⟩ h
        rw [if_neg (show ¬ nI ((scn c (ztn z) (ztn z + 1) g00 0).2 0 0) = 0 by rw [show (0 : Int32) = nI 0 from rfl, nI_inj (by omega) (by decide)]; exact q2), bS, G_gI isG_10, bS, h2.1 1 (by decide), q3, if_pos (show nI 0 = 0 from rfl)]
    · rw [if_neg q]
  · obtain ⟨m1, e1, h1, h2, h3, h4⟩ := m_readsAll (l := l) hl hc.2.2.2.1
    obtain ⟨m', e, h5, h6⟩ := m_letgo (l := l) hz hc h2 h3 h4
    refine ⟨m', ?_, h5, h6⟩
    rw [fX7_lay, grd_t M_o, e1, bS]
    by_cases q : (scn c (ztn z) (ztn z + 1) g00 0).1 = -4
    · obtain ⟨s1, t1⟩ := h1 q
      rw [if_pos q, M_r3, bS, a96_0, bS, t1.1]
      have hW : Wf (scn c (ztn z) (ztn z + 1) g00 0).2 := (scn_W _ _ _ Wf_g00).1
      have h5 := hW.1.1
      have h7 := hW.1.2.1
      by_cases q2 : (scn c (ztn z) (ztn z + 1) g00 0).2 0 0 = 0
      · rw [q2, if_pos (show nI 0 = 0 from rfl), e, bS]
      · have q3 : (scn c (ztn z) (ztn z + 1) g00 0).2 0 1 = 0 := by
          by_cases e : (scn c (ztn z) (ztn z + 1) g00 0).2 0 1 = 0
          · exact e
          · exact absurd ⟨q, q2, e⟩ h
        rw [if_neg (show ¬ nI ((scn c (ztn z) (ztn z + 1) g00 0).2 0 0) = 0 by rw [show (0 : Int32) = nI 0 from rfl, nI_inj (by omega) (by decide)]; exact q2), bS, a96_1, bS, t1.2.1, q3, if_pos (show nI 0 = 0 from rfl), e, bS]
    · rw [if_neg q, e, bS]
theorem lay_36 {m : Nat → Nat → Int32} {l : Nat → Nat → Int64} {g : Gn} (ht : MT 96 m g) : ∃ m1, fX7_lay_36 FU 93 0 (Mk m l) = some (nI (g 0 1), Mk (m2 (m2 (m2 m1 93 6 0) 93 8 0) 93 10 0) l) ∧ MT 95 m1 g ∧ F1 95 m m1 := by
  refine lpR (fun u j (s : Nat → Nat → Int32) => fX7_lay_36 u 93 (nI j) (Mk s l)) (fun j s => Cp 96 95 m s j) (fun o => ∃ m1, o = some (nI (g 0 1), Mk (m2 (m2 (m2 m1 93 6 0) 93 8 0) 93 10 0) l) ∧ MT 95 m1 g ∧ F1 95 m m1) 56 ?_ ?_ FU 0 m (by decide) (by decide) Cp_0
  · intro u j s hj hI
    left
    refine ⟨_, Cp_s (by decide) hI, ?_⟩
    rw [fX7_lay_36, if_neg (by rw [show (56 : Int32) = nI 56 from rfl]; exact nI_ge hj (by decide))]
    simp only [M_r2, M_r3, bS, a96 hj, b95 hj, nI_1]
  · intro u s hI
    have t1 : MT 95 s g := by
      refine ⟨by rw [hI.1 0 (by decide)]; exact ht.1, by rw [hI.1 1 (by decide)]; exact ht.2.1, fun h hh => ?_, fun y hy => ?_⟩
      · rw [hI.1 (2 + h) (by omega), hI.1 (9 + h) (by omega)]
        exact ht.2.2.1 h hh
      · rw [hI.1 (16 + y) (by omega)]
        exact ht.2.2.2 y hy
    refine ⟨s, ?_, t1, hI.2⟩
    rw [fX7_lay_36, if_pos (by decide), M_pI, bS, M_pI, bS, M_pI, bS, M_r2, bS, a95_1, bS, m2_ne (by decide), m2_ne (by decide), m2_ne (by decide), t1.2.1]
theorem op_lay : Op (fX6_lay 0) (fX7_lay 93) := by
  intro z hz
  obtain ⟨c, hl⟩ := Lt_z hz
  by_cases h : (scn c (ztn z) (ztn z + 1) g00 0).1 = -4 ∧ (scn c (ztn z) (ztn z + 1) g00 0).2 0 0 ≠ 0 ∧ (scn c (ztn z) (ztn z + 1) g00 0).2 0 1 ≠ 0
  · obtain ⟨h1, h2, h3⟩ := h
    have hW := scn_W (c := c) (n := ztn z) (ztn z + 1) g00 0 Wf_g00
    obtain ⟨g, hg⟩ : ∃ g, g = (scn c (ztn z) (ztn z + 1) g00 0).2 := ⟨_, rfl⟩
    rw [← hg] at h2 h3 hW
    have h5 := hW.1.1.1
    have h7 := hW.1.1.2.1
    have hy : g 0 2 = 0 := hW.2
    have n2 : ¬ nI (g 0 0) = 0 := by
      rw [show (0 : Int32) = nI 0 from rfl, nI_inj (by omega) (by decide)]
      exact h2
    have n3 : ¬ nI (g 0 1) = 0 := by
      rw [show (0 : Int32) = nI 0 from rfl, nI_inj (by omega) (by decide)]
      exact h3
    refine ⟨nI (g 0 1), (g, (0, zpf z), (0, zkf z), z.2.2.2.1, (0, zsf z)), fun m l hc => ?_, fun m l hc => ?_, ?_⟩
    · obtain ⟨m1, l1, e1, hh1, f1, f2⟩ := c_readInto (l := l) hl hc.2.2.2.1
      obtain ⟨g1, _, _⟩ := hh1 h1
      rw [h1] at e1
      rw [← hg] at g1
      have hc1 := CI_FR hc f1 f2
      obtain ⟨m3, l3, e3, g3, f3, f4⟩ := c_copyFrom (a := 4) (b := 10) isG_4 isG_10 (by decide) g1 h5
      have sp : Sh 16 8 18 m3 l3 (zpn z) (zpf z) := Sh_eq isS_p hc1.2.1 (fun c q1 q2 => f3 c (by omega)) (fun c q1 q2 => by rw [f4]; exact m2_ne (by omega))
      have sk : Sh 66 2 68 m3 l3 (zkn z) (zkf z) := Sh_eq isS_k hc1.2.2.1 (fun c q1 q2 => f3 c (by omega)) (fun c q1 q2 => by rw [f4]; exact m2_ne (by omega))
      obtain ⟨m5, e5, sp5, f5⟩ := S_empty isS_p sp
      obtain ⟨m6, e6, sk6, f6⟩ := S_empty isS_k (Sh_eq isS_k sk (m' := m5) (l' := l3) (fun c q1 q2 => f5 c (by omega)) (fun c q1 q2 => rfl))
      have g6 : CG 4 (m2 m6 80 0 0) l3 g := CG_eq g3 (fun c q1 q2 => by rw [m2_ne (by omega), f6 c (by omega), f5 c (by omega)]) rfl
      refine ⟨m2 m6 80 0 0, l3, ?_, ⟨g6, Sh_eq isS_p sp5 (fun c q1 q2 => by rw [m2_ne (by omega), f6 c (by omega)]) (fun c q1 q2 => rfl), Sh_eq isS_k sk6 (fun c q1 q2 => m2_ne (by omega)) (fun c q1 q2 => rfl), CTx_eq (n := ztn z) (f := ztf z) hc1.2.2.2.1 ?_ ?_, ⟨m2_at, fun i hi => absurd hi (Nat.not_lt_zero i)⟩⟩, fun c hc => ?_⟩
      · have e4 : m2 m6 80 0 0 4 1 = nI (g 0 1) := g6.1 1 (by decide)
        rw [fX6_lay, grd_t X_o, X_r0, bS, X_r2, bS, e1, bS, if_pos rfl]
        simp only [X_r2, bS, G_gI isG_10, g1.1 0 (by decide), g1.1 1 (by decide), if_neg n2, if_neg n3, X_r1, e3, X_r3, e5, X_r4, e6, X_r5, fX5_empty, grd_t P_o, P_gI, P_pI, G_gI isG_4, e4]
      · rw [m2_ne (by decide), f6 1 (by omega), f5 1 (by omega), f3 1 (by omega)]
      · rw [m2_ne (by decide), f6 2 (by omega), f5 2 (by omega), f3 2 (by omega)]
      · rw [m2_ne (by omega), f6 c (by omega), f5 c (by omega), f3 c (by omega), f1 c (by omega) (by omega)]
    · obtain ⟨m1, e1, hh1, ha, hb, hd⟩ := m_readsAll (l := l) hl hc.2.2.2.1
      obtain ⟨s1, t1⟩ := hh1 h1
      rw [h1] at e1
      rw [← hg] at s1 t1
      obtain ⟨m3, e3, t3, f3⟩ := lay_36 (l := l) t1
      refine ⟨m2 (m2 (m2 m3 93 6 0) 93 8 0) 93 10 0, ?_, ⟨⟨?_, ?_⟩, ⟨?_, fun i hi => absurd hi (Nat.not_lt_zero i)⟩, ⟨?_, fun i hi => absurd hi (Nat.not_lt_zero i)⟩, ?_, ⟨m2_at, fun i hi => absurd hi (Nat.not_lt_zero i)⟩⟩, fun c hc => ?_⟩
      · rw [fX7_lay, grd_t M_o, e1, bS, if_pos rfl, M_r3, bS, a96_0, bS, t1.1, if_neg n2, bS, a96_1, bS, t1.2.1, if_neg n3, e3]
      · show MT 95 (m2 (m2 (m2 m3 93 6 0) 93 8 0) 93 10 0) g
        unfold MT
        rw [m2_ne (by decide), m2_ne (by decide), m2_ne (by decide)]
        exact t3
      · show MS (m2 (m2 (m2 m3 93 6 0) 93 8 0) 93 10 0) g
        rw [MS_MR, m2_ne (by decide), m2_ne (by decide), m2_ne (by decide), f3 97 (by decide)]
        exact s1
      · rw [m2_nk (by decide), m2_nk (by decide), m2_at]
        rfl
      · rw [m2_nk (by decide), m2_at]
        rfl
      · show MTx (m2 (m2 (m2 m3 93 6 0) 93 8 0) 93 10 0) (ztn z) (ztf z)
        unfold MTx
        rw [m2_nk (by decide), m2_nk (by decide), m2_nk (by decide), m2_ne (by decide), m2_ne (by decide), m2_ne (by decide), f3 93 (by decide), f3 94 (by decide), hd 1 (by decide), hb 94 (by decide) (by decide) (by decide) (by decide)]
        exact hc.2.2.2.1
      · rw [m2_ne (by omega), m2_ne (by omega), m2_ne (by omega), f3 c (by omega), hb c (by omega) (by omega) (by omega) (by omega)]
    · refine ⟨⟨hW.1, Nat.pos_of_ne_zero h2, Nat.pos_of_ne_zero h3, by show g 0 2 ≤ 999; omega⟩, ⟨Nat.zero_le _, fun i hi => absurd hi (Nat.not_lt_zero i)⟩, ⟨Nat.zero_le _, fun i hi => absurd hi (Nat.not_lt_zero i)⟩, hz.2.2.2.1, ⟨Nat.zero_le _, fun i hi => absurd hi (Nat.not_lt_zero i)⟩⟩
  · obtain ⟨h6, h7⟩ := op_lay_no hz hl h
    exact ⟨-2, z, h6, h7, hz⟩
