section CMa
variable {a : Nat} {m : Nat → Nat → Int32} {l : Nat → Nat → Int64} {g : Gn}
theorem nI_m1 (n : Nat) : nI n + (-1) = nI n - 1 := by rw [Int32.sub_eq_add_neg]
/-- all that is known ahead, from h on -/
def LH (g : Gn) (h : Nat) (m : Nat → Nat → Int32) : Prop := ∀ j, h ≤ j → j ≤ 7 → m 87 j = nI (sw (g 3) (wq g j (g 0 1 - j))) ∧ m 88 j = nI (rc (g 2) (wq g j (g 0 1 - j)))
theorem c_lookAhead (ha : isG a) (hc : CG a m l g) (hw : Wb g) : ∃ m', fX2_lookAhead 84 a (Mk m l) = some (Mk m' l) ∧ LA g m' ∧ ∀ c, c ≠ 87 → c ≠ 88 → m' c = m c := by
  have hN7 := hw.2.1
  have e7 : wq g 7 (g 0 1 - 7) = [] := wq_e hN7
  have b7 : ∀ (s : Nat → Nat → Int32) (x : Int32), bI 8 87 7 x (Mk s l) = some (Mk (m2 s 87 7 x) l) := fun s x => b87 (j := 7) (by decide)
  have b8 : ∀ (s : Nat → Nat → Int32) (x : Int32), bI 8 88 7 x (Mk s l) = some (Mk (m2 s 88 7 x) l) := fun s x => b88 (j := 7) (by decide)
  rw [fX2_lookAhead, grd_t K_o, K_r3, bS, b7, bS, K_r4, bS, b8, bS]
  refine lpR (fun n j (s : Int32 × Int32 × (Nat → Nat → Int32)) => fX2_lookAhead_24 n 84 a s.1 s.2.1 (nI (7 - j) - 1) (Mk s.2.2 l)) (fun j s => s.1 = nI (ls (g 2) (wq g (7 - j) (g 0 1 - (7 - j)))) ∧ s.2.1 = nI (sto (g 2) (wq g (7 - j) (g 0 1 - (7 - j)))) ∧ LH g (7 - j) s.2.2 ∧ ∀ c, c ≠ 87 → c ≠ 88 → s.2.2 c = m c) (fun o => ∃ m', o = some (Mk m' l) ∧ LA g m' ∧ ∀ c, c ≠ 87 → c ≠ 88 → m' c = m c) 7 ?_ ?_ FU 0 (0, 0, m2 (m2 m 87 7 0) 88 7 0) (by decide) (by have := FU_big; omega) ⟨?_, ?_, ?_, ?_⟩
  · intro n j s hj hI
    left
    obtain ⟨i1, i2, i3, i4⟩ := hI
    obtain ⟨c, hcc⟩ : ∃ c, 7 - j = c + 1 := ⟨6 - j, by omega⟩
    have hc1 : 7 - (j + 1) = c := by omega
    have hc7 : c < 7 := by omega
    have hcs : CG a s.2.2 l g := CG_eq hc (fun c' h1 h2 => i4 c' (by have := isG_le ha; omega) (by have := isG_le ha; omega)) rfl
    rw [hcc] at i1 i2 i3
    rw [hcc, hc1, nI_pred, fX2_lookAhead_24, if_neg (nI_pos (by omega))]
    have hn := i3 (c + 1) (Nat.le_refl _) (by omega)
    have fin : ∀ (v2 v3 v5 x : Int32) (L : List Nat), wq g c (g 0 1 - c) = L → v2 = nI (ls (g 2) L) → v3 = nI (sto (g 2) L) → x = nI (sw (g 3) L) → ∃ s' : Int32 × Int32 × (Nat → Nat → Int32), (s'.1 = nI (ls (g 2) (wq g c (g 0 1 - c))) ∧ s'.2.1 = nI (sto (g 2) (wq g c (g 0 1 - c))) ∧ LH g c s'.2.2 ∧ ∀ c', c' ≠ 87 → c' ≠ 88 → s'.2.2 c' = m c') ∧ ((bI 8 87 (nI c) x (Mk s.2.2 l)).bind fun m22 => (gR 2 84 4 m22).bind fun x24 => (bI 8 x24 (nI c) (v2 + v3) m22).bind fun m26 => fX2_lookAhead_24 n 84 a v2 v3 (nI c + (-1)) m26) = fX2_lookAhead_24 n 84 a s'.1 s'.2.1 (nI c - 1) (Mk s'.2.2 l) := by
      intro v2 v3 v5 x L eL e2 e3 ex
      refine ⟨(v2, v3, m2 (m2 s.2.2 87 c x) 88 c (v2 + v3)), ⟨by rw [eL]; exact e2, by rw [eL]; exact e3, fun j' h1 h2 => ?_, fun c' h1 h2 => ?_⟩, ?_⟩
      · show m2 (m2 s.2.2 87 c x) 88 c (v2 + v3) 87 j' = _ ∧ m2 (m2 s.2.2 87 c x) 88 c (v2 + v3) 88 j' = _
        rw [m2_ne (show 87 ≠ 88 by decide)]
        by_cases z : j' = c
        · rw [z, m2_at, m2_at, eL, ex, e2, e3, nI_add, rc]
          exact ⟨rfl, rfl⟩
        · rw [m2_nk z, m2_nk z, m2_ne (show 88 ≠ 87 by decide)]
          exact i3 j' (by omega) h2
      · show m2 (m2 s.2.2 87 c x) 88 c (v2 + v3) c' = m c'
        rw [m2_ne h2, m2_ne h1]
        exact i4 c' h1 h2
      · rw [b87 (by omega), bS, K_r4, bS, b88 (by omega), bS, nI_m1]
    by_cases hcN : c < g 0 1
    · have hk4 := (hw.2.2.2.2 c hc7).1
      rw [c_hasHour ha hcs hw hcN, bS, if_neg n0, c_lies ha hcs hw hcN, bS]
      by_cases h9 : g 4 c = 9
      · have eL : wq g c (g 0 1 - c) = c :: wq g (c + 1) (g 0 1 - (c + 1)) := by rw [wq_c hcN, if_pos h9]
        simp only [if_pos h9, if_true, fX2_lookAhead_52, if_neg n0, c_kindOf ha hcs hw hcN, bS]
        have ex : nI (sw (g 3) (wq g (c + 1) (g 0 1 - (c + 1)))) + nI (g 3 c) = nI (sw (g 3) (c :: wq g (c + 1) (g 0 1 - (c + 1)))) := by rw [sw, nI_add, Nat.add_comm]
        by_cases h3 : g 2 c = 3
        · have q3 : nI (g 2 c) = 3 := by rw [h3]; rfl
          simp only [if_pos q3, fX2_lookAhead_92, K_r3, bS, nI_1, a87 (show c + 1 < 8 by omega), hn.1, if_neg n0, c_worthOf ha hcs hw hcN, fX2_lookAhead_122]
          refine fin s.1 1 0 _ _ eL ?_ ?_ ex
          · rw [i1, ls, h3]
            simp [nm]
          · rw [sto, if_pos h3]
            rfl
        · have q3 : ¬ nI (g 2 c) = 3 := by rw [show (3 : Int32) = nI 3 from rfl, nI_inj (by omega) (by decide)]; exact h3
          simp only [if_neg q3, fX2_lookAhead_74, if_neg n0, c_kindOf ha hcs hw hcN, bS, c_needAbove (x := -1) (b := 9) hk4 (by decide), fX2_lookAhead_92, K_r3, nI_1, a87 (show c + 1 < 8 by omega), hn.1, c_worthOf ha hcs hw hcN, fX2_lookAhead_122]
          refine fin (s.1 + nI (nd 9 (g 2 c))) s.2.1 0 _ _ eL ?_ ?_ ex
          · rw [i1, ls, nm, if_neg h3, nI_add, Nat.add_comm]
          · rw [i2, sto, if_neg h3]
      · have eL : wq g c (g 0 1 - c) = wq g (c + 1) (g 0 1 - (c + 1)) := by rw [wq_c hcN, if_neg h9]
        simp only [if_neg h9, if_neg n0, fX2_lookAhead_52, if_true, fX2_lookAhead_74, fX2_lookAhead_92, K_r3, bS, nI_1, a87 (show c + 1 < 8 by omega), hn.1, fX2_lookAhead_122]
        exact fin s.1 s.2.1 0 _ _ eL i1 i2 (by rw [Int32.add_zero])
    · have eL : wq g c (g 0 1 - c) = wq g (c + 1) (g 0 1 - (c + 1)) := by rw [wq_e (by omega), wq_e (by omega)]
      rw [c_hasHour0 ha hcs hw (Or.inr (nI_le (by omega) (by omega))), bS]
      simp only [if_true, fX2_lookAhead_52, fX2_lookAhead_74, fX2_lookAhead_92, K_r3, bS, nI_1, a87 (show c + 1 < 8 by omega), hn.1, fX2_lookAhead_122]
      exact fin s.1 s.2.1 0 _ _ eL i1 i2 (by rw [Int32.add_zero])
  · intro n s hI
    obtain ⟨i1, i2, i3, i4⟩ := hI
    refine ⟨s.2.2, ?_, fun h hh => i3 h (by omega) (by omega), i4⟩
    show fX2_lookAhead_24 (n + 1) 84 a s.1 s.2.1 (nI (7 - 7) - 1) (Mk s.2.2 l) = _
    rw [fX2_lookAhead_24, if_pos (by decide)]
  · show (0 : Int32) = nI (ls (g 2) (wq g 7 (g 0 1 - 7)))
    rw [e7]
    rfl
  · show (0 : Int32) = nI (sto (g 2) (wq g 7 (g 0 1 - 7)))
    rw [e7]
    rfl
  · intro j h1 h2
    have : j = 7 := by omega
    subst this
    show m2 (m2 m 87 7 0) 88 7 0 87 7 = _ ∧ m2 (m2 m 87 7 0) 88 7 0 88 7 = _
    rw [m2_ne (by decide), m2_at, m2_at, e7]
    exact ⟨rfl, rfl⟩
  · intro c h1 h2
    show m2 (m2 m 87 7 0) 88 7 0 c = m c
    rw [m2_ne h2, m2_ne h1]
theorem c_freeIn0 (ha : isG a) (hc : CG a m l g) (hw : Wb g) {p : Nat} (hp : g 0 0 ≤ p) (hp9 : p < 9) : fX0_freeIn a (nI p) (Mk m l) = some (0, Mk m l) := by
  have h5 := hw.1
  have hr : fX0_roomOf a (nI p) (Mk m l) = some (0, Mk m l) := by
    rw [fX0_roomOf, grd_t (G_o ha), c_hasPlot0 ha hc hw (Or.inr (nI_le hp (by omega))), bS, if_pos rfl]
  rw [fX0_freeIn, grd_t (G_o ha), hr, bS]
  refine lpR (fun n j (x : Int32) => fX0_freeIn_8 n a (nI p) x (nI j) (Mk m l)) (fun j x => x = 0) (fun o => o = some (0, Mk m l)) 7 ?_ ?_ FU 0 0 (by decide) (by decide) rfl
  · intro n j s hj hI
    left
    subst hI
    refine ⟨0, rfl, ?_⟩
    have := (hw.2.2.2.2 j hj).2.2
    rw [fX0_freeIn_8, if_neg (by rw [show (7 : Int32) = nI 7 from rfl]; exact nI_ge hj (by decide)), G_r8 ha, bS, G_a4 ha hj, bS, (hc.2.2.1 j hj).2.2.1, if_neg (fun q => by have := (plI_eq (pl_le hw hj) hp9).mp q; omega), nI_1]
  · intro n s hI
    subst hI
    rw [fX0_freeIn_8, if_pos (by decide)]
theorem c_topOf0' (ha : isG a) (hc : CG a m l g) (hw : Wb g) {p : Nat} (hp : g 0 0 ≤ p) (hp9 : p < 9) : fX0_topOf a (nI p) (Mk m l) = some (-4, Mk m l) := c_topOf0 ha hc hw (Or.inr (nI_le hp (by omega)))
theorem Pb_f0 (hw : Wb g) : Pb (g 0 0) (f0 g) := by
  intro p hp
  have h1 := hw.2.2.2.1 p hp
  have h2 := us_le g p
  rw [f0, if_pos hp]
  show -20 ≤ (if tk g p = 3 then -1 else (g 1 p : Int) - (us g p : Nat)) ∧ (if tk g p = 3 then -1 else (g 1 p : Int) - (us g p : Nat)) ≤ 9
  split <;> omega
/-- the first best way of a green, above a bar -/
def Bst (g : Gn) (bar : Int) : Ac := Sr (g 0 0) (g 2) (g 3) (wq g 0 (g 0 1)) (f0 g) 0 (g 4) (bar, fun _ => 0)
theorem c_mostOf (ha : isG a) (hc : CG a m l g) (hw : Wb g) {bar : Int} (hb1 : -1 ≤ bar) (hb2 : bar ≤ 140) : ∃ m', fX2_mostOf 84 a (iI bar) (Mk m l) = some (iI (Bst g bar).1, Mk m' l) ∧ FJ m m' ∧ (bar < (Bst g bar).1 → ∀ h, h < g 0 1 → m' 90 h = plI ((Bst g bar).2 h)) := by
  have hN7 := hw.2.1
  have hP5 := hw.1
  rw [fX2_mostOf, grd_t K_o]
  refine lpR (fun n j (s : Nat → Nat → Int32) => fX2_mostOf_2 n 84 a (iI bar) (nI j) (Mk s l)) (fun j s => FJ m s ∧ ∀ p, p < j → p < g 0 0 → s 85 p = iI (f0 g p).1 ∧ s 86 p = bI1 (f0 g p).2) (fun o => ∃ m', o = some (iI (Bst g bar).1, Mk m' l) ∧ FJ m m' ∧ (bar < (Bst g bar).1 → ∀ h, h < g 0 1 → m' 90 h = plI ((Bst g bar).2 h))) 5 ?_ ?_ FU 0 m (by decide) (by have := FU_big; omega) ⟨FJ.rf, fun p hp => absurd hp (by omega)⟩
  · intro n j s hj hI
    left
    obtain ⟨i1, i2⟩ := hI
    have hcs := CG_FJ ha hc i1
    rw [fX2_mostOf_2, if_neg (by rw [show (5 : Int32) = nI 5 from rfl]; exact nI_ge hj (by decide))]
    have fin : ∀ (x : Int32) (b : Bool), (j < g 0 0 → x = iI (f0 g j).1 ∧ b = (f0 g j).2) → ∃ s', (FJ m s' ∧ ∀ p, p < j + 1 → p < g 0 0 → s' 85 p = iI (f0 g p).1 ∧ s' 86 p = bI1 (f0 g p).2) ∧ m2 (m2 s 85 j x) 86 j (bI1 b) = s' := by
      intro x b hx
      refine ⟨_, ⟨i1.tr ((FJ.st (by decide) (by decide)).tr (FJ.st (by decide) (by decide))), fun p h1 h2 => ?_⟩, rfl⟩
      rw [m2_ne (show 85 ≠ 86 by decide)]
      by_cases z : p = j
      · subst z
        rw [m2_at, m2_at, (hx h2).1, (hx h2).2]
        exact ⟨rfl, rfl⟩
      · rw [m2_nk z, m2_nk z, m2_ne (show 86 ≠ 85 by decide)]
        exact i2 p (by omega) h2
    have e38 : ∀ (v4 x : Int32) (b : Bool), (v4 = 2 ↔ b = true) → fX2_mostOf_38 (fX2_mostOf_2 n) 84 a (iI bar) (nI j) v4 85 (nI j) x (Mk s l) = fX2_mostOf_2 n 84 a (iI bar) (nI (j + 1)) (Mk (m2 (m2 s 85 j x) 86 j (bI1 b)) l) := by
      intro v4 x b hb
      rw [fX2_mostOf_38, b85 hj, bS, K_r2, bS]
      cases b with
      | true => rw [if_pos (hb.mpr rfl), show (1 : Int32) = bI1 true from rfl, b86 hj, bS, show bI1 true = (1 : Int32) from rfl, nI_1]
      | false => rw [if_neg (fun z => by have := hb.mp z; exact absurd this (by decide)), show (0 : Int32) = bI1 false from rfl, b86 hj, bS, nI_1]
    by_cases hjP : j < g 0 0
    · simp only [c_topOf ha hcs hw hjP, bS, c_topKind ha hcs hw hjP, K_r1, knI_3 (tk_le hw j), c_freeIn ha hcs hw hjP]
      have hkb : knI (tk g j) = 2 ↔ (tk g j == 2) = true := by rw [knI_2 (tk_le hw j)]; simp
      have ef : (f0 g j) = (if tk g j = 3 then -1 else (g 1 j : Int) - (us g j : Nat), tk g j == 2) := by rw [f0, if_pos hjP]
      by_cases q : tk g j = 3
      · obtain ⟨s', h1, h2⟩ := fin (-1) (tk g j == 2) (fun _ => by rw [ef, if_pos q, iI_m1]; exact ⟨rfl, rfl⟩)
        refine ⟨s', h1, ?_⟩
        rw [if_pos q, e38 _ _ _ hkb, h2]
      · obtain ⟨s', h1, h2⟩ := fin (nI (g 1 j) - nI (us g j)) (tk g j == 2) (fun _ => by rw [ef, if_neg q, ← iI_sub, iI_n]; exact ⟨rfl, rfl⟩)
        refine ⟨s', h1, ?_⟩
        rw [if_neg q, e38 _ _ _ hkb, h2]
    · simp only [c_topOf0' ha hcs hw (show g 0 0 ≤ j by omega) (show j < 9 by omega), bS, c_kindOf0 ha hcs hw (x := -4) (Or.inl (by decide)), K_r1, c_freeIn0 ha hcs hw (show g 0 0 ≤ j by omega) (show j < 9 by omega)]
      obtain ⟨s', h1, h2⟩ := fin 0 false (fun z => absurd z hjP)
      refine ⟨s', h1, ?_⟩
      rw [if_neg (by decide), e38 _ _ false (by decide), h2]
  · intro n s hI
    obtain ⟨i1, i2⟩ := hI
    have hcs := CG_FJ ha hc i1
    obtain ⟨m1, e1, la1, fm1⟩ := c_lookAhead ha hcs hw
    have f1 : FJ s m1 := fun c hcc => fm1 c (by omega) (by omega)
    have f2 : FJ m1 (m2 m1 84 0 (iI bar)) := FJ.st (by decide) (by decide)
    have pre : Pre g a l 0 (f0 g) (g 4) bar (bar, fun _ => 0) (m2 m1 84 0 (iI bar)) := by
      refine ⟨CG_FJ ha hcs (f1.tr f2), fun p hp => ?_, Pb_f0 hw, fun h hh => ?_, ⟨by rw [m2_at], fun z => absurd z (Int.lt_irrefl _)⟩, fun j hj => absurd hj (by omega), hb1, hb2⟩
      · rw [m2_ne (by decide), m2_ne (by decide), fm1 85 (by decide) (by decide), fm1 86 (by decide) (by decide)]
        exact i2 p (by omega) hp
      · rw [m2_ne (by decide), m2_ne (by decide)]
        exact la1 h hh
    have hsw := sw_le (w := g 3) (g := g) (fun i hi => (hw.2.2.2.2 i hi).2.1) (d := g 0 1 - 0) (h := 0) (by omega)
    obtain ⟨m', e, p'⟩ := c_tryFrom (l := l) (bar := bar) ha hw (g 0 1) 9 0 (by omega) (by omega) 0 _ _ _ _ pre (fun _ _ _ _ => rfl) (by omega)
    obtain ⟨d1, d2, d3, d4, d5, d6⟩ := p'
    have eB : Sr (g 0 0) (g 2) (g 3) (wq g 0 (g 0 1 - 0)) (f0 g) 0 (g 4) (bar, fun _ => 0) = Bst g bar := by rw [Nat.sub_zero, Bst]
    rw [eB] at d5
    refine ⟨m', ?_, i1.tr (f1.tr (f2.tr d1)), d5.2⟩
    have e' : fX2_tryFrom 9 84 a 0 0 (Mk (m2 m1 84 0 (iI bar)) l) = some (Mk m' l) := e
    rw [fX2_mostOf_2, if_pos (by decide), e1, bS, K_pI, bS, e', bS, K_gI, bS, d5.1]
end CMa
