/-- a decade by draws, from a green that has stirred nothing -/
def dcd (g : Gn) (a : Nat) : Nat → Gn
  | 0 => m2 g 0 3 0
  | j + 1 => y1 (act (dcd g a j) (dr a j))
theorem dcd_S {g : Gn} {a : Nat} : ∀ j, Sm g (dcd g a j)
  | 0 => Sm_m2 (by omega)
  | j + 1 => (dcd_S j).tr (act_S.tr Sm_y1)
theorem dcd_y {g : Gn} {a : Nat} : ∀ j, dcd g a j 0 2 = g 0 2 + j
  | 0 => by rw [dcd, m2_nk (by decide)]; rfl
  | j + 1 => by rw [dcd, y1_y, act_y, dcd_y j]; omega
theorem dcd_W {g : Gn} (hw : Wf g) (hP : 0 < g 0 0) (hN : 0 < g 0 1) {a : Nat} : ∀ j, g 0 2 + j ≤ 100000 → Wf (dcd g a j)
  | 0, _ => Wf_0 hw (by decide) (by decide) (by omega)
  | j + 1, h => by
    have h1 := dcd_W hw hP hN (a := a) j (by omega)
    have hp : 0 < dcd g a j 0 0 := by rw [(dcd_S j).1]; exact hP
    have hn : 0 < dcd g a j 0 1 := by rw [(dcd_S j).2.1]; exact hN
    exact Wf_y1 (act_W h1 hp hn) (by rw [act_S.1]; exact hp) (by rw [act_y, dcd_y]; omega)
theorem op_decade (x y w : Int32) : Op (fX6_decade 0 x y w) (fX7_decade 93 x y w) := by
  refine Op_q (fun z hz => ?_)
  have hw := hz.1.1
  have hy := hz.1.2.2.2
  have hN7 := hw.1.2.1
  have hP5 := hw.1.1
  have hP0 := hz.1.2.1
  have hN0 := hz.1.2.2.1
  by_cases q1 : x < 0 ∨ 9999 < x
  · refine ⟨-1, C6_p (fun m l hc => ?_), C7_p (fun m l hc => ?_)⟩
    · rw [fX6_decade, grd_t X_o, c_within, Option.bind_some, if_pos q1, if_pos rfl]
    · rw [fX7_decade, grd_t M_o, m_in, Option.bind_some, if_pos q1, if_pos rfl]
  obtain ⟨a, _, ha, rfl⟩ := inr (a := 0) (b := 9999) (by decide) (by decide) q1
  by_cases q2 : y < 1 ∨ 60 < y
  · refine ⟨-1, C6_p (fun m l hc => ?_), C7_p (fun m l hc => ?_)⟩
    · rw [fX6_decade, grd_t X_o, c_within, Option.bind_some, if_neg q1, if_neg n0, c_within, Option.bind_some, if_pos q2, if_pos rfl]
    · rw [fX7_decade, grd_t M_o, m_in, Option.bind_some, if_neg q1, if_neg n0, m_in, Option.bind_some, if_pos q2, if_pos rfl]
  obtain ⟨N, _, hN, rfl⟩ := inr (a := 1) (b := 60) (by decide) (by decide) q2
  by_cases q3 : w < 0 ∨ 2 < w
  · refine ⟨-1, C6_p (fun m l hc => ?_), C7_p (fun m l hc => ?_)⟩
    · rw [fX6_decade, grd_t X_o, c_within, Option.bind_some, if_neg q1, if_neg n0, c_within, Option.bind_some, if_neg q2, if_neg n0, c_within, Option.bind_some, if_pos q3, if_pos rfl]
    · rw [fX7_decade, grd_t M_o, m_in, Option.bind_some, if_neg q1, if_neg n0, m_in, Option.bind_some, if_neg q2, if_neg n0, m_in, Option.bind_some, if_pos q3, if_pos rfl]
  obtain ⟨v, _, hv, rfl⟩ := inr (a := 0) (b := 2) (by decide) (by decide) q3
  have hW : ∀ j, j ≤ N → Wf (dcd (zg z) a j) := fun j hj => dcd_W hw hP0 hN0 j (by omega)
  have hS := fun j => dcd_S (g := zg z) (a := a) j
  refine ⟨if v = 0 then nI (ct (fun h => !(dcd (zg z) a N 4 h == 9)) (zg z 0 1)) else if v = 1 then nI (sm (fun h => if dcd (zg z) a N 4 h = 9 then 0 else zg z 3 h) (zg z 0 1)) else nI (dcd (zg z) a N 0 3), C6_q (fun m l hc => ?_), C7_q (fun m l hc => ?_)⟩
  · obtain ⟨m1, l1, e1, g1, f1, fl1⟩ := c_trial hc.1 hw.1.1
    have g2 : CG 10 (m2 m1 10 3 (nI 0)) l1 (dcd (zg z) a 0) := CG_0 g1 (by decide)
    have key : ∃ m', fX6_decade_54 FU 0 (nI a) (nI N) (nI v) 0 (Mk (m2 m1 10 3 (nI 0)) l1) = some (if v = 0 then nI (ct (fun h => !(dcd (zg z) a N 4 h == 9)) (zg z 0 1)) else if v = 1 then nI (sm (fun h => if dcd (zg z) a N 4 h = 9 then 0 else zg z 3 h) (zg z 0 1)) else nI (dcd (zg z) a N 0 3), Mk m' l1) ∧ Fr 10 m1 m' := by
      refine lpR (fun n j (s : Nat → Nat → Int32) => fX6_decade_54 n 0 (nI a) (nI N) (nI v) (nI j) (Mk s l1)) (fun j s => CG 10 s l1 (dcd (zg z) a j) ∧ Fr 10 m1 s) (fun o => ∃ m', o = some (if v = 0 then nI (ct (fun h => !(dcd (zg z) a N 4 h == 9)) (zg z 0 1)) else if v = 1 then nI (sm (fun h => if dcd (zg z) a N 4 h = 9 then 0 else zg z 3 h) (zg z 0 1)) else nI (dcd (zg z) a N 0 3), Mk m' l1) ∧ Fr 10 m1 m') N ?_ ?_ FU 0 _ (by omega) (by have := FU_big; omega) ⟨g2, Fr.st (by omega) (by omega)⟩
      · intro n j s hj hI
        left
        obtain ⟨h1, h2⟩ := hI
        have hp : 0 < dcd (zg z) a j 0 0 := by rw [(hS j).1]; exact hP0
        have hn : 0 < dcd (zg z) a j 0 1 := by rw [(hS j).2.1]; exact hN0
        have hd := dr_lt a j
        obtain ⟨m3, e3, g3, f3⟩ := c_act isG_10 h1 (hW j (by omega)) hp hn (show dr a j < 2 ^ 31 by omega)
        obtain ⟨r4, m4, e4, g4, f4⟩ := c_pass1 isG_10 g3 (act_W (hW j (by omega)) hp hn).1 (by rw [act_S.1]; exact hp) (by rw [act_y, dcd_y]; omega)
        refine ⟨m4, ⟨g4, h2.tr (f3.tr f4)⟩, ?_⟩
        have ed : fX6_drawOf (nI a) (nI j) (Mk s l1) = some (nI (dr a j), Mk s l1) := by
          rw [fX6_drawOf, draw ha (by omega), nL_int (by omega)]
        rw [fX6_decade_54, if_neg (nI_ge hj (by omega)), X_r2, Option.bind_some, ed, Option.bind_some, e3, Option.bind_some, X_r2, Option.bind_some, e4, Option.bind_some, nI_1]
      · intro n s hI
        obtain ⟨h1, h2⟩ := hI
        refine ⟨s, ?_, h2⟩
        rw [fX6_decade_54, if_pos (nI_le (Nat.le_refl N) (by omega)), X_r2, Option.bind_some, Option.bind_some, Option.bind_some, c_lyingCount isG_10 h1 (hW N (Nat.le_refl _)).1, Option.bind_some, c_lyingWorth isG_10 h1 (hW N (Nat.le_refl _)).1, Option.bind_some, G_gI isG_10, Option.bind_some, h1.1 3 (by decide), (hS N).2.1]
        have e3 : ∀ h, dcd (zg z) a N 3 h = zg z 3 h := (hS N).2.2.2.1
        simp only [e3]
        have : v = 0 ∨ v = 1 ∨ v = 2 := by omega
        rcases this with rfl | rfl | rfl
        · rw [if_pos rfl, if_pos (show nI 0 = 0 from rfl)]
        · rw [if_neg (show ¬ nI 1 = 0 by decide), if_pos (show nI 1 = 1 from rfl), if_neg (by decide), if_pos rfl]
        · rw [if_neg (show ¬ nI 2 = 0 by decide), if_neg (show ¬ nI 2 = 1 by decide), if_neg (by decide), if_neg (by decide)]
    obtain ⟨m3, e3, f3⟩ := key
    refine ⟨m3, l1, ?_, f1.tr (FQ_Fr f3), fl1⟩
    have ep : pI 0 10 3 0 (Mk m1 l1) = some (Mk (m2 m1 10 3 (nI 0)) l1) := G_pI isG_10
    rw [fX6_decade, grd_t X_o, c_within, Option.bind_some, if_neg q1, if_neg n0, c_within, Option.bind_some, if_neg q2, if_neg n0, c_within, Option.bind_some, if_neg q3, if_neg n0, X_r2, Option.bind_some, X_r1, Option.bind_some, e1, Option.bind_some, X_r2, Option.bind_some, ep, Option.bind_some, e3]
  · obtain ⟨m1, e1, c1⟩ := m_looks (m := m) (l := l)
    have s1 := (MR_looks hc.1.2 hw.1.1 c1).2
    have t1 := MT_F1 hc.1.1 c1.2 (by decide)
    have h0 : m2 (dcd (zg z) a 0) 0 3 (dcd (zg z) a 0 0 3 + zg z 0 3) = zg z := by
      rw [dcd, m2_m2, m2_at, Nat.zero_add]
      funext c k
      simp only [m2]
      by_cases e : c = 0 ∧ k = 3
      · rw [if_pos e, e.1, e.2]
      · rw [if_neg e]
    have key : ∃ m', fX7_decade_39 FU 93 (nI a) (nI N) (nI v) 0 (Mk m1 l) = some (if v = 0 then nI (ct (fun h => !(dcd (zg z) a N 4 h == 9)) (zg z 0 1)) else if v = 1 then nI (sm (fun h => if dcd (zg z) a N 4 h = 9 then 0 else zg z 3 h) (zg z 0 1)) else nI (dcd (zg z) a N 0 3), Mk m' l) ∧ FN m m' ∧ MT 95 m' (zg z) ∧ MS m' (zg z) := by
      refine lpR (fun n j (s : Nat → Nat → Int32) => fX7_decade_39 n 93 (nI a) (nI N) (nI v) (nI j) (Mk s l)) (fun j s => MS s (m2 (dcd (zg z) a j) 0 3 (dcd (zg z) a j 0 3 + zg z 0 3)) ∧ F1 97 m1 s) (fun o => ∃ m', o = some (if v = 0 then nI (ct (fun h => !(dcd (zg z) a N 4 h == 9)) (zg z 0 1)) else if v = 1 then nI (sm (fun h => if dcd (zg z) a N 4 h = 9 then 0 else zg z 3 h) (zg z 0 1)) else nI (dcd (zg z) a N 0 3), Mk m' l) ∧ FN m m' ∧ MT 95 m' (zg z) ∧ MS m' (zg z)) N ?_ ?_ FU 0 m1 (by omega) (by have := FU_big; omega) ⟨by rw [h0]; exact s1, F1.rf⟩
      · intro n j s hj hI
        left
        obtain ⟨h1, h2⟩ := hI
        have hs3 : Sm (zg z) (m2 (dcd (zg z) a j) 0 3 (dcd (zg z) a j 0 3 + zg z 0 3)) := (hS j).tr (Sm_m2 (by omega))
        have hp : 0 < m2 (dcd (zg z) a j) 0 3 (dcd (zg z) a j 0 3 + zg z 0 3) 0 0 := by rw [hs3.1]; exact hP0
        have hn : 0 < m2 (dcd (zg z) a j) 0 3 (dcd (zg z) a j 0 3 + zg z 0 3) 0 1 := by rw [hs3.2.1]; exact hN0
        have hd := dr_lt a j
        have hwj : Wf (m2 (dcd (zg z) a j) 0 3 (dcd (zg z) a j 0 3 + zg z 0 3)) := Wf_0 (hW j (by omega)) (by decide) (by decide) (by omega)
        obtain ⟨m3, e3, g3, f3⟩ := m_turn (l := l) h1 (MT_S (MT_F1 t1 h2 (by decide)) hs3) hwj hp hn (show dr a j < 2 ^ 31 by omega)
        obtain ⟨r4, m4, e4, g4, f4⟩ := m_pass1 (l := l) g3 (MT_S (MT_F1 t1 (h2.tr f3) (by decide)) (hs3.tr act_S)) (act_W hwj hp hn) (by rw [act_S.1]; exact hp)
        refine ⟨m4, ⟨?_, h2.tr (f3.tr f4)⟩, ?_⟩
        · rw [act_3, y1_3] at g4
          have e : y1 (act (dcd (zg z) a j) (dr a j)) = dcd (zg z) a (j + 1) := rfl
          rw [e] at g4
          have e5 : act (dcd (zg z) a j) (dr a j) 0 3 = dcd (zg z) a (j + 1) 0 3 := by rw [dcd, y1_0 (by decide)]
          rw [e5] at g4
          exact g4
        · rw [fX7_decade_39, if_neg (nI_ge hj (by omega)), draw ha (by omega), nL_int (by omega), e3, Option.bind_some, e4, Option.bind_some, nI_1]
      · intro n s hI
        obtain ⟨h1, h2⟩ := hI
        obtain ⟨m', e, h4, h5, h6, _⟩ := m_letsQ (l := l) hc.1.2 hc.1.1 hw.1.1 c1 h2
        have hs3 : Sm (zg z) (m2 (dcd (zg z) a N) 0 3 (dcd (zg z) a N 0 3 + zg z 0 3)) := (hS N).tr (Sm_m2 (by omega))
        have hwN : Wb (m2 (dcd (zg z) a N) 0 3 (dcd (zg z) a N 0 3 + zg z 0 3)) := (Wf_0 (hW N (Nat.le_refl _)) (by decide) (by decide) (by omega)).1
        refine ⟨m', ?_, h4, h5, h6⟩
        have el := m_lyingAll (l := l) h1 (MT_S (MT_F1 t1 h2 (by decide)) hs3) hwN
        have e4 : (fun h => !(m2 (dcd (zg z) a N) 0 3 (dcd (zg z) a N 0 3 + zg z 0 3) 4 h == 9)) = (fun h => !(dcd (zg z) a N 4 h == 9)) := by
          funext h
          rw [m2_ne (by decide)]
        rw [e4, hs3.2.1] at el
        have es : s 97 1 = nI (dcd (zg z) a N 0 3 + zg z 0 3) := by rw [h1.2.1, m2_at]
        rw [fX7_decade_39, if_pos (nI_le (Nat.le_refl N) (by omega)), M_r4, Option.bind_some, a97_1, Option.bind_some, el, Option.bind_some, e, Option.bind_some, m_ones, Option.bind_some, ones_orN hN7, m_worthOf h5 hw.1, Option.bind_some, M_r4, Option.bind_some, a97_1, Option.bind_some, h6.2.1, es]
        have ew : wS (zg z) (orN (fun h => !(dcd (zg z) a N 4 h == 9)) (zg z 0 1)) (zg z 0 1) = sm (fun h => if dcd (zg z) a N 4 h = 9 then 0 else zg z 3 h) (zg z 0 1) := by
          refine sm_cong (fun k hk => ?_)
          rw [bit_orN (by omega) hN7, decide_eq_true hk, Bool.true_and]
          by_cases q : dcd (zg z) a N 4 k = 9
          · simp [q]
          · simp [q]
        have esub : nI (dcd (zg z) a N 0 3 + zg z 0 3) - nI (zg z 0 3) = nI (dcd (zg z) a N 0 3) := by
          rw [← nI_add, Int32.add_sub_cancel]
        rw [ew, esub]
        have : v = 0 ∨ v = 1 ∨ v = 2 := by omega
        rcases this with rfl | rfl | rfl
        · rw [if_pos rfl, if_pos (show nI 0 = 0 from rfl)]
        · rw [if_neg (show ¬ nI 1 = 0 by decide), if_pos (show nI 1 = 1 from rfl), if_neg (by decide), if_pos rfl]
        · rw [if_neg (show ¬ nI 2 = 0 by decide), if_neg (show ¬ nI 2 = 1 by decide), if_neg (by decide), if_neg (by decide)]
    obtain ⟨m', e, hk⟩ := key
    refine ⟨m', ?_, hk⟩
    rw [fX7_decade, grd_t M_o, m_in, Option.bind_some, if_neg q1, if_neg n0, m_in, Option.bind_some, if_neg q2, if_neg n0, m_in, Option.bind_some, if_neg q3, if_neg n0, e1, Option.bind_some, e]
