theorem wq_c {g : Gn} {h : Nat} (hh : h < g 0 1) : wq g h (g 0 1 - h) = if g 4 h = 9 then h :: wq g (h + 1) (g 0 1 - (h + 1)) else wq g (h + 1) (g 0 1 - (h + 1)) := by
  rw [show g 0 1 - h = (g 0 1 - (h + 1)) + 1 by omega, wq]
theorem wq_e {g : Gn} {h : Nat} (hh : g 0 1 ≤ h) : wq g h (g 0 1 - h) = [] := by
  rw [show g 0 1 - h = 0 by omega, wq]
section SRb
variable {P : Nat} {k w : Nat → Nat}
theorem Sr_ge {L : List Nat} {f : Pls} {won : Nat} {tr : Nat → Nat} {a : Ac} : a.1 ≤ (Sr P k w L f won tr a).1 ∧ ((won : Int) + (Vs P k w L f : Nat)) ≤ (Sr P k w L f won tr a).1 := Sr_le.mp (Int.le_refl _)
theorem Sr_bd {L : List Nat} {f : Pls} {won : Nat} {tr : Nat → Nat} {a : Ac} {x : Int} (h1 : a.1 ≤ x) (h2 : ((won : Int) + (sw w L : Nat)) ≤ x) : (Sr P k w L f won tr a).1 ≤ x := Sr_le.mpr ⟨h1, by have := Vs_sw (P := P) (k := k) (w := w) (L := L) (f := f); omega⟩
theorem sF_ge {h : Nat} {t : List Nat} {f : Pls} {won : Nat} {tr : Nat → Nat} {p : Nat} {a : Ac} : a.1 ≤ (sF P k w h t f won tr p a).1 ∧ (pf (f p) (k h) → ((won : Int) + (w h : Nat) + (Vs P k w t (pu f p (pp (f p) (k h))) : Nat)) ≤ (sF P k w h t f won tr p a).1) := by
  rw [sF]
  by_cases q : pfb (f p) (k h) = true
  · rw [if_pos q]
    have := Sr_ge (P := P) (k := k) (w := w) (L := t) (f := pu f p (pp (f p) (k h))) (won := won + w h) (tr := su tr h p) (a := a)
    exact ⟨this.1, fun _ => by omega⟩
  · rw [if_neg q]
    exact ⟨Int.le_refl _, fun z => absurd (pfb_t.mpr z) q⟩
theorem sF_bd {h : Nat} {t : List Nat} {f : Pls} {won : Nat} {tr : Nat → Nat} {p : Nat} {a : Ac} {x : Int} (h1 : a.1 ≤ x) (h2 : ((won : Int) + (w h : Nat) + (sw w t : Nat)) ≤ x) : (sF P k w h t f won tr p a).1 ≤ x := by
  rw [sF]
  by_cases q : pfb (f p) (k h) = true
  · rw [if_pos q]
    exact Sr_bd h1 (by omega)
  · rw [if_neg q]
    exact h1
end SRb
def Pre (g : Gn) (a : Nat) (l : Nat → Nat → Int64) (h : Nat) (f : Pls) (tr : Nat → Nat) (bar : Int) (acc : Ac) (m : Nat → Nat → Int32) : Prop := CG a m l g ∧ PK (g 0 0) f m ∧ Pb (g 0 0) f ∧ LA g m ∧ AcR (g 0 1) bar acc m ∧ (∀ j, j < h → m 89 j = plI (tr j)) ∧ (-1 ≤ acc.1 ∧ acc.1 ≤ 140)
def Pos (g : Gn) (h : Nat) (f : Pls) (bar : Int) (acc : Ac) (m m' : Nat → Nat → Int32) : Prop := FJ m m' ∧ m' 87 = m 87 ∧ m' 88 = m 88 ∧ PK (g 0 0) f m' ∧ AcR (g 0 1) bar acc m' ∧ ∀ j, j < h → m' 89 j = m 89 j
/-- what the search from an hour on does -/
def Rok (g : Gn) (a : Nat) (l : Nat → Nat → Int64) (bar : Int) (rc' : Nat → Nat → Int32 → Int32 → Mu → Option Mu) (h : Nat) : Prop := ∀ (won : Nat) (f : Pls) (tr : Nat → Nat) (acc : Ac) (m : Nat → Nat → Int32), Pre g a l h f tr bar acc m → (∀ j, h ≤ j → j < g 0 1 → g 4 j ≠ 9 → tr j = g 4 j) → won + sw (g 3) (wq g h (g 0 1 - h)) ≤ 140 → ∃ m', rc' 84 a (nI h) (nI won) (Mk m l) = some (Mk m' l) ∧ Pos g h f bar (Sr (g 0 0) (g 2) (g 3) (wq g h (g 0 1 - h)) f won tr acc) m m'
theorem Pre_Pos {g : Gn} {a h h' : Nat} {l : Nat → Nat → Int64} {f : Pls} {tr : Nat → Nat} {bar : Int} {acc acc' : Ac} {m m' : Nat → Nat → Int32} (ha : isG a) (h1 : Pre g a l h f tr bar acc m) (h2 : Pos g h' f bar acc' m m') (hh : h ≤ h') (hb : -1 ≤ acc'.1 ∧ acc'.1 ≤ 140) : Pre g a l h f tr bar acc' m' := by
  obtain ⟨c1, c2, c3, c4, c5, c6, c7⟩ := h1
  obtain ⟨d1, d2, d3, d4, d5, d6⟩ := h2
  refine ⟨CG_FJ ha c1 d1, d4, c3, fun j hj => ?_, d5, fun j hj => ?_, hb⟩
  · rw [d2, d3]
    exact c4 j hj
  · rw [d6 j (by omega)]
    exact c6 j hj
theorem Pos_rf {g : Gn} {a h h' : Nat} {l : Nat → Nat → Int64} {f : Pls} {tr : Nat → Nat} {bar : Int} {acc : Ac} {m : Nat → Nat → Int32} (h1 : Pre g a l h f tr bar acc m) : Pos g h' f bar acc m m := ⟨FJ.rf, rfl, rfl, h1.2.1, h1.2.2.2.2.1, fun _ _ => rfl⟩
theorem Pos_tr {g : Gn} {h h' : Nat} {f f' : Pls} {bar : Int} {acc acc' : Ac} {m m1 m2' : Nat → Nat → Int32} (h1 : Pos g h f bar acc m m1) (h2 : Pos g h' f' bar acc' m1 m2') (hh : h ≤ h') : Pos g h f' bar acc' m m2' := ⟨h1.1.tr h2.1, h2.2.1.trans h1.2.1, h2.2.2.1.trans h1.2.2.1, h2.2.2.2.1, h2.2.2.2.2.1, fun j hj => (h2.2.2.2.2.2 j (by omega)).trans (h1.2.2.2.2.2 j hj)⟩
section CTa
variable {a h p won : Nat} {m : Nat → Nat → Int32} {l : Nat → Nat → Int64} {g : Gn} {f : Pls} {tr : Nat → Nat} {bar : Int} {acc : Ac} {rc' : Nat → Nat → Int32 → Int32 → Mu → Option Mu}
theorem c_tryIn (ha : isG a) (hw : Wb g) (hh : h < g 0 1) (h9 : g 4 h = 9) (hp : p < g 0 0) (hR : Rok g a l bar rc' (h + 1)) (hpre : Pre g a l h f tr bar acc m) (htr : ∀ j, h ≤ j → j < g 0 1 → g 4 j ≠ 9 → tr j = g 4 j) (hwon : won + g 3 h + sw (g 3) (wq g (h + 1) (g 0 1 - (h + 1))) ≤ 140)
    (htw : ∀ q, q < p → pf (f q) (g 2 h) → ((won : Int) + (g 3 h : Nat) + (Vs (g 0 0) (g 2) (g 3) (wq g (h + 1) (g 0 1 - (h + 1))) (pu f q (pp (f q) (g 2 h))) : Nat)) ≤ acc.1) :
    ∃ m', fX2_tryIn rc' 84 a (nI h) (nI p) (nI won) (Mk m l) = some (Mk m' l) ∧ Pos g h f bar (sF (g 0 0) (g 2) (g 3) h (wq g (h + 1) (g 0 1 - (h + 1))) f won tr p acc) m m' := by
  have h7 : h < 7 := by have := hw.2.1; omega
  have hP5 := hw.1
  have hp5 : p < 5 := by omega
  obtain ⟨hc, hk, hb, hla, hac, htd, hab⟩ := hpre
  have bp := hb p hp
  have hk4 := (hw.2.2.2.2 h h7).1
  have hpn := nd_le (if (f p).2 = true then 2 else 0) (g 2 h)
  have e53 : fX2_tryIn rc' 84 a (nI h) (nI p) (nI won) (Mk m l) = fX2_tryIn_53 rc' 84 a (nI h) (nI p) (nI won) (nI (g 2 h)) (iI (f p).1) (bI1 (f p).2) (if (f p).2 = true then 2 else 0) (Mk m l) := by
    rw [fX2_tryIn, if_neg (nI_pos (by omega)), if_neg (by rw [show (5 : Int32) = nI 5 from rfl]; exact nI_ge hp5 (by decide)), if_neg (nI_pos (by omega)), if_pos (by rw [show (7 : Int32) = nI 7 from rfl]; exact nI_lt h7 (by decide)), c_kindOf ha hc hw hh]
    simp only [bS, K_r1, K_r2, a85 hp5, a86 hp5, (hk p hp).1, (hk p hp).2, bI1_0]
    by_cases q : (f p).2 = true
    · rw [if_neg (by rw [q]; decide), if_pos q]
    · rw [if_pos (by simpa using q), if_neg q]
  have hna : fX0_needAbove (if (f p).2 = true then 2 else 0) (nI (g 2 h)) (Mk m l) = some (nI (pn (f p) (g 2 h)), Mk m l) := by
    refine c_needAbove hk4 ?_
    by_cases q : (f p).2 = true
    · rw [if_pos q, if_pos q]
      exact ⟨fun _ => rfl, fun _ => rfl⟩
    · rw [if_neg q, if_neg q]
      exact ⟨fun z => absurd z (by decide), fun z => absurd z (by decide)⟩
  have hpn2 : pn (f p) (g 2 h) ≤ 2 := hpn
  have hlt : iI (f p).1 < nI (pn (f p) (g 2 h)) ↔ ¬ pf (f p) (g 2 h) := by
    rw [← iI_n, iI_lt (by omega) (by omega) (by omega) (by omega)]
    unfold pf
    omega
  rw [e53, fX2_tryIn_53, hna, bS]
  by_cases hf : pf (f p) (g 2 h)
  · rw [if_neg (fun z => hlt.mp z hf)]
    have er : m 88 h = nI (rc (g 2) (h :: wq g (h + 1) (g 0 1 - (h + 1)))) := by
      rw [(hla h (by omega)).2, wq_c hh, if_pos h9]
    have hrc : rc (g 2) (h :: wq g (h + 1) (g 0 1 - (h + 1))) ≤ 100 := by
      have := rc_le (k := g 2) (g := g) (h := h) (d := g 0 1 - h)
      rw [wq_c hh, if_pos h9] at this
      have := hw.2.1
      omega
    simp only [K_r4, bS, a88 (show h < 8 by omega), er]
    rcases c_twin (l := l) hk hb hP5 hp hrc with ⟨q, hq, ht, e⟩ | e
    · rw [e, bS, if_neg n0]
      refine ⟨m, rfl, ?_⟩
      have tw := twin (w := g 3) hp (show q < g 0 0 by omega) (show q ≠ p by omega) ht hf
      have hx := htw q hq tw.1
      have : sF (g 0 0) (g 2) (g 3) h (wq g (h + 1) (g 0 1 - (h + 1))) f won tr p acc = acc := by
        rw [sF, if_pos (pfb_t.mpr hf)]
        refine Sr_no ?_
        have := tw.2
        omega
      rw [this]
      exact ⟨FJ.rf, rfl, rfl, hk, hac, fun _ _ => rfl⟩
    · rw [e, bS, if_pos rfl]
      have e102 : ∀ μ : Mu, (if nI (g 2 h) = 3 then fX2_tryIn_102 rc' 84 a (nI h) (nI p) (nI won) (nI (g 2 h)) (iI (f p).1) (bI1 (f p).2) 85 (nI p) (-1) μ else fX2_tryIn_102 rc' 84 a (nI h) (nI p) (nI won) (nI (g 2 h)) (iI (f p).1) (bI1 (f p).2) 85 (nI p) (iI (f p).1 - nI (pn (f p) (g 2 h))) μ) = fX2_tryIn_102 rc' 84 a (nI h) (nI p) (nI won) (nI (g 2 h)) (iI (f p).1) (bI1 (f p).2) 85 (nI p) (iI (pp (f p) (g 2 h)).1) μ := by
        intro μ
        rw [show (3 : Int32) = nI 3 from rfl, iI_sub, pp]
        by_cases q : g 2 h = 3
        · rw [if_pos (by rw [q]), if_pos q, iI_m1]
        · rw [if_neg (by rw [nI_inj (by omega) (by decide)]; exact q), if_neg q]
      have e119 : ∀ μ : Mu, (if nI (g 2 h) = 2 then fX2_tryIn_119 rc' 84 a (nI h) (nI p) (nI won) (iI (f p).1) (bI1 (f p).2) 86 (nI p) 1 μ else fX2_tryIn_119 rc' 84 a (nI h) (nI p) (nI won) (iI (f p).1) (bI1 (f p).2) 86 (nI p) 0 μ) = fX2_tryIn_119 rc' 84 a (nI h) (nI p) (nI won) (iI (f p).1) (bI1 (f p).2) 86 (nI p) (bI1 (pp (f p) (g 2 h)).2) μ := by
        intro μ
        rw [show (2 : Int32) = nI 2 from rfl, pp]
        by_cases q : g 2 h = 2
        · rw [if_pos (by rw [q])]
          simp [q, bI1]
        · rw [if_neg (by rw [nI_inj (by omega) (by decide)]; exact q)]
          simp [q, bI1]
      obtain ⟨m3, hm3⟩ : ∃ m3, m3 = m2 (m2 (m2 m 85 p (iI (pp (f p) (g 2 h)).1)) 86 p (bI1 (pp (f p) (g 2 h)).2)) 89 h (nI p) := ⟨_, rfl⟩
      have f3 : FJ m m3 := by
        rw [hm3]
        exact (FJ.st (by decide) (by decide)).tr ((FJ.st (by decide) (by decide)).tr (FJ.st (by decide) (by decide)))
      have x87 : m3 87 = m 87 := by rw [hm3, m2_ne (by decide), m2_ne (by decide), m2_ne (by decide)]
      have x88 : m3 88 = m 88 := by rw [hm3, m2_ne (by decide), m2_ne (by decide), m2_ne (by decide)]
      have x84 : m3 84 = m 84 := by rw [hm3, m2_ne (by decide), m2_ne (by decide), m2_ne (by decide)]
      have x90 : m3 90 = m 90 := by rw [hm3, m2_ne (by decide), m2_ne (by decide), m2_ne (by decide)]
      have pre3 : Pre g a l (h + 1) (pu f p (pp (f p) (g 2 h))) (su tr h p) bar acc m3 := by
        refine ⟨CG_FJ ha hc f3, fun q hq => ?_, fun q hq => ?_, fun j hj => ?_, ?_, fun j hj => ?_, hab⟩
        · rw [hm3, m2_ne (show 85 ≠ 89 by decide), m2_ne (show 85 ≠ 86 by decide), m2_ne (show 86 ≠ 89 by decide), pu]
          by_cases z : q = p
          · subst z
            rw [if_pos rfl, m2_at, m2_at]
            exact ⟨rfl, rfl⟩
          · rw [if_neg z, m2_nk z, m2_nk z, m2_ne (show 86 ≠ 85 by decide)]
            exact hk q hq
        · rw [pu]
          by_cases z : q = p
          · rw [if_pos z]
            unfold pf at hf
            show -20 ≤ (if g 2 h = 3 then -1 else (f p).1 - pn (f p) (g 2 h)) ∧ (if g 2 h = 3 then -1 else (f p).1 - pn (f p) (g 2 h)) ≤ 9
            split
            · omega
            · omega
          · rw [if_neg z]
            exact hb q hq
        · rw [x87, x88]
          exact hla j hj
        · rw [AcR, x84, x90]
          exact hac
        · rw [hm3, su]
          by_cases z : j = h
          · rw [if_pos z, z, m2_at, plI, if_neg (by omega)]
          · rw [if_neg z, m2_nk z, m2_ne (by decide), m2_ne (by decide)]
            exact htd j (by omega)
      obtain ⟨m4, e4, p4⟩ := hR (won + g 3 h) _ _ _ m3 pre3 (fun j h1 h2 h3 => by
        rw [su, if_neg (by omega)]
        exact htr j (by omega) h2 h3) (by omega)
      have ew := c_worthOf ha (CG_FJ ha hc f3) hw hh
      refine ⟨m2 (m2 m4 85 p (iI (f p).1)) 86 p (bI1 (f p).2), ?_, ?_⟩
      · simp only [K_r1, bS]
        rw [e102, fX2_tryIn_102, b85 hp5, bS, K_r2, bS, e119, fX2_tryIn_119, b86 hp5, bS, K_r5, bS, b89 h7, bS, ← hm3, ew]
        simp only [bS, nI_1, nI_add, e4, K_r1, b85 hp5, K_r2, b86 hp5]
      · obtain ⟨d1, d2, d3, d4, d5, d6⟩ := p4
        refine ⟨f3.tr (d1.tr ((FJ.st (by decide) (by decide)).tr (FJ.st (by decide) (by decide)))), ?_, ?_, fun q hq => ?_, ?_, fun j hj => ?_⟩
        · rw [m2_ne (by decide), m2_ne (by decide), d2, x87]
        · rw [m2_ne (by decide), m2_ne (by decide), d3, x88]
        · rw [m2_ne (show 85 ≠ 86 by decide)]
          by_cases z : q = p
          · subst z
            rw [m2_at, m2_at]
            exact ⟨rfl, rfl⟩
          · have := d4 q hq
            rw [pu, if_neg z] at this
            rw [m2_nk z, m2_nk z, m2_ne (show 86 ≠ 85 by decide)]
            exact this
        · rw [AcR, m2_ne (show 84 ≠ 86 by decide), m2_ne (show 84 ≠ 85 by decide), m2_ne (show 90 ≠ 86 by decide), m2_ne (show 90 ≠ 85 by decide), sF, if_pos (pfb_t.mpr hf)]
          exact d5
        · rw [m2_ne (by decide), m2_ne (by decide), d6 j (by omega), hm3, m2_nk (by omega), m2_ne (by decide), m2_ne (by decide)]
  · rw [if_pos (hlt.mpr hf)]
    refine ⟨m, rfl, ?_⟩
    have : sF (g 0 0) (g 2) (g 3) h (wq g (h + 1) (g 0 1 - (h + 1))) f won tr p acc = acc := by
      rw [sF, if_neg (fun z => hf (pfb_t.mp z))]
    rw [this]
    exact ⟨FJ.rf, rfl, rfl, hk, hac, fun _ _ => rfl⟩
theorem c_tryLoop (ha : isG a) (hw : Wb g) (hh : h < g 0 1) (h9 : g 4 h = 9) (hR : Rok g a l bar rc' (h + 1)) (hpre : Pre g a l h f tr bar acc m) (htr : ∀ j, h ≤ j → j < g 0 1 → g 4 j ≠ 9 → tr j = g 4 j) (hwon : won + g 3 h + sw (g 3) (wq g (h + 1) (g 0 1 - (h + 1))) ≤ 140) :
    ∃ m', fX2_tryFromB_78 rc' FU 84 a (nI h) (nI won) 0 (Mk m l) = some (Mk m' l) ∧ Pos g h f bar (Sr (g 0 0) (g 2) (g 3) (h :: wq g (h + 1) (g 0 1 - (h + 1))) f won tr acc) m m' := by
  have h7 : h < 7 := by have := hw.2.1; omega
  have hP5 := hw.1
  refine lpR (fun n j (s : Nat → Nat → Int32) => fX2_tryFromB_78 rc' n 84 a (nI h) (nI won) (nI j) (Mk s l)) (fun j s => ∃ ac, Pos g h f bar ac m s ∧ fr (sF (g 0 0) (g 2) (g 3) h (wq g (h + 1) (g 0 1 - (h + 1))) f won tr) ac j (g 0 0 - j) = fr (sF (g 0 0) (g 2) (g 3) h (wq g (h + 1) (g 0 1 - (h + 1))) f won tr) acc 0 (g 0 0) ∧ (-1 ≤ ac.1 ∧ ac.1 ≤ 140) ∧ ∀ q, q < j → pf (f q) (g 2 h) → ((won : Int) + (g 3 h : Nat) + (Vs (g 0 0) (g 2) (g 3) (wq g (h + 1) (g 0 1 - (h + 1))) (pu f q (pp (f q) (g 2 h))) : Nat)) ≤ ac.1) (fun o => ∃ m', o = some (Mk m' l) ∧ Pos g h f bar (Sr (g 0 0) (g 2) (g 3) (h :: wq g (h + 1) (g 0 1 - (h + 1))) f won tr acc) m m') (g 0 0) ?_ ?_ FU 0 m (by omega) (by have := FU_big; omega) ⟨acc, Pos_rf hpre, by rw [Nat.sub_zero], hpre.2.2.2.2.2.2, fun q hq => absurd hq (by omega)⟩
  · intro n j s hj hI
    left
    obtain ⟨ac, i1, i2, i3, i4⟩ := hI
    have prs := Pre_Pos ha hpre i1 (Nat.le_refl h) i3
    obtain ⟨m', e, p'⟩ := c_tryIn ha hw hh h9 hj hR prs htr hwon i4
    have hge := sF_ge (P := g 0 0) (k := g 2) (w := g 3) (h := h) (t := wq g (h + 1) (g 0 1 - (h + 1))) (f := f) (won := won) (tr := tr) (p := j) (a := ac)
    refine ⟨m', ⟨_, Pos_tr i1 p' (Nat.le_refl h), ?_, ⟨by omega, sF_bd i3.2 (by omega)⟩, fun q hq hf => ?_⟩, ?_⟩
    · rw [← i2, show g 0 0 - j = (g 0 0 - (j + 1)) + 1 by omega, fr]
    · by_cases z : q = j
      · subst z
        exact hge.2 hf
      · have := i4 q (by omega) hf
        omega
    · rw [fX2_tryFromB_78, G_gI ha, bS, prs.1.1 0 (by decide), if_neg (nI_ge hj (by omega)), if_neg (by rw [show (5 : Int32) = nI 5 from rfl]; exact nI_ge (by omega) (by decide)), e, bS, nI_1]
  · intro n s hI
    obtain ⟨ac, i1, i2, i3, i4⟩ := hI
    have prs := Pre_Pos ha hpre i1 (Nat.le_refl h) i3
    obtain ⟨hc, hk, hb, hla, hac, htd, hab⟩ := prs
    rw [Nat.sub_self, fr] at i2
    have f3 : FJ s (m2 s 89 h (plI 9)) := FJ.st (by decide) (by decide)
    have pre3 : Pre g a l (h + 1) f (su tr h 9) bar ac (m2 s 89 h (plI 9)) := by
      refine ⟨CG_FJ ha hc f3, fun q hq => ?_, hb, fun j hj => ?_, ?_, fun j hj => ?_, hab⟩
      · rw [m2_ne (by decide), m2_ne (by decide)]
        exact hk q hq
      · rw [m2_ne (by decide), m2_ne (by decide)]
        exact hla j hj
      · rw [AcR, m2_ne (by decide), m2_ne (by decide)]
        exact hac
      · rw [su]
        by_cases z : j = h
        · rw [if_pos z, z, m2_at]
        · rw [if_neg z, m2_nk z]
          exact htd j (by omega)
    obtain ⟨m4, e4, p4⟩ := hR won _ _ _ _ pre3 (fun j h1 h2 h3 => by
      rw [su, if_neg (by omega)]
      exact htr j (by omega) h2 h3) (by omega)
    refine ⟨m4, ?_, ?_⟩
    · rw [fX2_tryFromB_78, G_gI ha, bS, hc.1 0 (by decide), if_pos (nI_le (Nat.le_refl _) (by omega)), fX2_tryFromB_108, K_r5, bS, show (-4 : Int32) = plI 9 from rfl, b89 h7, bS, nI_1, e4, bS]
    · rw [Sr_c, ← i2]
      obtain ⟨d1, d2, d3, d4, d5, d6⟩ := p4
      refine ⟨i1.1.tr (f3.tr d1), ?_, ?_, d4, d5, fun j hj => ?_⟩
      · rw [d2, m2_ne (by decide), i1.2.1]
      · rw [d3, m2_ne (by decide), i1.2.2.1]
      · rw [d6 j (by omega), m2_nk (by omega), i1.2.2.2.2.2 j hj]
theorem c_tryFrom (ha : isG a) (hw : Wb g) : ∀ (d D h : Nat), d < D → h + d = g 0 1 → Rok g a l bar (fX2_tryFrom D) h := by
  intro d
  induction d with
  | zero =>
    intro D h hD hh won f tr acc m hpre htr hwon
    obtain ⟨D', rfl⟩ : ∃ D', D = D' + 1 := ⟨D - 1, by omega⟩
    have hN7 := hw.2.1
    have hpre' := hpre
    obtain ⟨hc, hk, hb, hla, hac, htd, hab⟩ := hpre
    have hL : wq g h (g 0 1 - h) = [] := wq_e (by omega)
    rw [hL] at hwon
    rw [hL, fX2_tryFrom, fX2_tryFromB, if_neg (nI_pos (by omega)), if_neg (by rw [show (7 : Int32) = nI 7 from rfl]; exact nI_nlt (by omega) (by omega)), K_r3, bS, a87 (by omega), bS, K_gI, bS, hac.1, (hla h (by omega)).1, hL, nI_add, ← iI_n]
    have e0 : sw (g 3) [] = 0 := rfl
    rw [e0] at hwon
    rw [e0]
    by_cases q : acc.1 < ((won + 0 : Nat) : Int)
    · obtain ⟨m', e, c1, c2, c3⟩ := c_choose (m := m) (l := l) (won := won)
      rw [if_pos ((iI_lt (by omega) (by omega) (by omega) (by omega)).mpr q), G_gI ha, bS, hc.1 1 (by decide), if_pos (nI_le (by omega) (by omega)), e, bS]
      refine ⟨m', rfl, fun c hcc => c3 c (by omega) (by omega), c3 87 (by decide) (by decide), c3 88 (by decide) (by decide), fun p hp => ?_, ?_, fun j hj => by rw [c3 89 (by decide) (by decide)]⟩
      · rw [c3 85 (by decide) (by decide), c3 86 (by decide) (by decide)]
        exact hk p hp
      · rw [Sr, if_pos (by omega)]
        refine ⟨by rw [c1, iI_n], fun _ j hj => ?_⟩
        rw [c2 j (by omega)]
        exact htd j (by omega)
    · rw [if_neg (fun z => q ((iI_lt (by omega) (by omega) (by omega) (by omega)).mp z)), Sr, if_neg (by omega)]
      exact ⟨m, rfl, Pos_rf hpre'⟩
  | succ d ih =>
    intro D h hD hh won f tr acc m hpre htr hwon
    obtain ⟨D', rfl⟩ : ∃ D', D = D' + 1 := ⟨D - 1, by omega⟩
    have hN7 := hw.2.1
    have hR : Rok g a l bar (fX2_tryFrom D') (h + 1) := ih D' (h + 1) (by omega) (by omega)
    have hpre' := hpre
    obtain ⟨hc, hk, hb, hla, hac, htd, hab⟩ := hpre
    have hsw := sw_le (w := g 3) (g := g) (fun i hi => (hw.2.2.2.2 i hi).2.1) (d := g 0 1 - h) (h := h) (by omega)
    rw [fX2_tryFrom, fX2_tryFromB, if_neg (nI_pos (by omega)), if_neg (by rw [show (7 : Int32) = nI 7 from rfl]; exact nI_nlt (by omega) (by omega)), K_r3, bS, a87 (by omega), bS, K_gI, bS, hac.1, (hla h (by omega)).1, nI_add, ← iI_n]
    by_cases q : acc.1 < ((won + sw (g 3) (wq g h (g 0 1 - h)) : Nat) : Int)
    · rw [if_pos ((iI_lt (by omega) (by omega) (by omega) (by omega)).mpr q), G_gI ha, bS, hc.1 1 (by decide), if_neg (nI_ge (by omega) (by omega)), if_neg (by rw [show (7 : Int32) = nI 7 from rfl, nI_inj (by omega) (by decide)]; omega), c_lies ha hc hw (by omega), bS]
      by_cases h9 : g 4 h = 9
      · rw [wq_c (by omega), if_pos h9] at hwon
        rw [wq_c (by omega), if_pos h9]
        rw [sw] at hwon
        simp only [if_pos h9, if_true]
        exact c_tryLoop ha hw (by omega) h9 hR hpre' htr (by omega)
      · have eL : wq g h (g 0 1 - h) = wq g (h + 1) (g 0 1 - (h + 1)) := by rw [wq_c (by omega), if_neg h9]
        rw [eL] at hwon
        rw [eL]
        have f3 : FJ m (m2 m 89 h (plI (g 4 h))) := FJ.st (by decide) (by decide)
        have pre3 : Pre g a l (h + 1) f tr bar acc (m2 m 89 h (plI (g 4 h))) := by
          refine ⟨CG_FJ ha hc f3, fun q hq => ?_, hb, fun j hj => ?_, ?_, fun j hj => ?_, hab⟩
          · rw [m2_ne (by decide), m2_ne (by decide)]
            exact hk q hq
          · rw [m2_ne (by decide), m2_ne (by decide)]
            exact hla j hj
          · rw [AcR, m2_ne (by decide), m2_ne (by decide)]
            exact hac
          · by_cases z : j = h
            · rw [z, m2_at, htr h (Nat.le_refl _) (by omega) h9]
            · rw [m2_nk z]
              exact htd j (by omega)
        obtain ⟨m4, e4, p4⟩ := hR won _ _ _ _ pre3 (fun j h1 h2 h3 => htr j (by omega) h2 h3) hwon
        refine ⟨m4, ?_, ?_⟩
        · rw [if_neg h9]
          simp only [if_neg n0, K_r5, bS, c_placeOf ha hc hw (show h < g 0 1 by omega), b89 (show h < 7 by omega), nI_1, e4]
        · obtain ⟨d1, d2, d3, d4, d5, d6⟩ := p4
          refine ⟨f3.tr d1, ?_, ?_, d4, d5, fun j hj => ?_⟩
          · rw [d2, m2_ne (by decide)]
          · rw [d3, m2_ne (by decide)]
          · rw [d6 j (by omega), m2_nk (by omega)]
    · rw [if_neg (fun z => q ((iI_lt (by omega) (by omega) (by omega) (by omega)).mp z))]
      refine ⟨m, rfl, ?_⟩
      rw [Sr_no (by have := Vs_sw (P := g 0 0) (k := g 2) (w := g 3) (L := wq g h (g 0 1 - h)) (f := f); omega)]
      exact Pos_rf hpre'
end CTa
