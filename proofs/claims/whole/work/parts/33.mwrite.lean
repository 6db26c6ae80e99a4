/-! the model's row, written -/
def MR (r : Nat → Int32) (g : Gn) : Prop := r 0 = nI (g 0 2) ∧ r 1 = nI (g 0 3) ∧ (∀ p, p < g 0 0 → r (2 + p) = nI (g 1 p)) ∧ (∀ h, h < 7 → r (7 + h) = plM (g 4 h) ∧ (g 4 h ≠ 9 → r (14 + h) = nI (g 5 h)))
theorem MS_MR {m : Nat → Nat → Int32} {g : Gn} : MS m g ↔ MR (m 97) g := Iff.rfl
theorem MR_eq {r r' : Nat → Int32} {g : Gn} (h : MR r g) (hP : g 0 0 ≤ 5) (e : ∀ k, k < 21 → r' k = r k) : MR r' g := by
  refine ⟨by rw [e 0 (by decide)]; exact h.1, by rw [e 1 (by decide)]; exact h.2.1, fun p hp => by rw [e (2 + p) (by omega)]; exact h.2.2.1 p hp, fun k hk => ?_⟩
  rw [e (7 + k) (by omega), e (14 + k) (by omega)]
  exact h.2.2.2 k hk
/-- only the cell t has changed -/
def F1 (t : Nat) (m m' : Nat → Nat → Int32) : Prop := ∀ c, c ≠ t → m' c = m c
theorem F1.rf {t : Nat} {m : Nat → Nat → Int32} : F1 t m m := fun _ _ => rfl
theorem F1.tr {t : Nat} {m m1 m2' : Nat → Nat → Int32} (h1 : F1 t m m1) (h2 : F1 t m1 m2') : F1 t m m2' := fun c hc => (h2 c hc).trans (h1 c hc)
theorem F1.st {t k : Nat} {m : Nat → Nat → Int32} {x : Int32} : F1 t m (m2 m t k x) := fun c' hc => m2_ne hc
theorem MT_F1 {t c : Nat} {m m' : Nat → Nat → Int32} {g : Gn} (h : MT t m g) (hf : F1 c m m') (hc : t ≠ c) : MT t m' g := by
  have e : m' t = m t := hf t hc
  unfold MT
  rw [e]
  exact h
theorem MT_g {t : Nat} {m : Nat → Nat → Int32} {g g' : Gn} (h : MT t m g) (e0 : g' 0 0 = g 0 0) (e1 : g' 0 1 = g 0 1) (e2 : ∀ i, g' 2 i = g 2 i) (e3 : ∀ i, g' 3 i = g 3 i) (e6 : ∀ i, g' 6 i = g 6 i) : MT t m g' := by
  refine ⟨by rw [e0]; exact h.1, by rw [e1]; exact h.2.1, fun k hk => by rw [e2, e3]; exact h.2.2.1 k hk, fun y hy => by rw [e6]; exact h.2.2.2 y hy⟩
section MWa
variable {m : Nat → Nat → Int32} {l : Nat → Nat → Int64} {g : Gn}
theorem MS_0 (hs : MS m g) {x : Nat} : MS (m2 m 97 0 (nI x)) (m2 g 0 2 x) := by
  refine ⟨by rw [m2_at, m2_at], by rw [m2_nk (by decide), m2_nk (by decide)]; exact hs.2.1, fun p hp => ?_, fun h hh => ?_⟩
  · rw [m2_nk (by decide)] at hp
    rw [m2_nk (by omega), m2_ne (by decide)]
    exact hs.2.2.1 p hp
  · rw [m2_nk (by omega), m2_nk (by omega), m2_ne (by decide), m2_ne (by decide)]
    exact hs.2.2.2 h hh
theorem MS_1 (hs : MS m g) {x : Nat} : MS (m2 m 97 1 (nI x)) (m2 g 0 3 x) := by
  refine ⟨by rw [m2_nk (by decide), m2_nk (by decide)]; exact hs.1, by rw [m2_at, m2_at], fun p hp => ?_, fun h hh => ?_⟩
  · rw [m2_nk (by decide)] at hp
    rw [m2_nk (by omega), m2_ne (by decide)]
    exact hs.2.2.1 p hp
  · rw [m2_nk (by omega), m2_nk (by omega), m2_ne (by decide), m2_ne (by decide)]
    exact hs.2.2.2 h hh
theorem MS_2 (hs : MS m g) {p x : Nat} (hp : p < 5) : MS (m2 m 97 (2 + p) (nI x)) (m2 g 1 p x) := by
  refine ⟨by rw [m2_nk (by omega), m2_ne (by decide)]; exact hs.1, by rw [m2_nk (by omega), m2_ne (by decide)]; exact hs.2.1, fun q hq => ?_, fun h hh => ?_⟩
  · rw [m2_ne (by decide)] at hq
    by_cases e : q = p
    · subst e
      rw [m2_at, m2_at]
    · rw [m2_nk (by omega), m2_nk e]
      exact hs.2.2.1 q hq
  · rw [m2_nk (by omega), m2_nk (by omega), m2_ne (by decide), m2_ne (by decide)]
    exact hs.2.2.2 h hh
theorem MS_7 (hs : MS m g) (hP : g 0 0 ≤ 5) {h x : Nat} (hh : h < 7) (hx : x ≠ 9 → m 97 (14 + h) = nI (g 5 h)) : MS (m2 m 97 (7 + h) (plM x)) (m2 g 4 h x) := by
  refine ⟨by rw [m2_nk (by omega), m2_ne (by decide)]; exact hs.1, by rw [m2_nk (by omega), m2_ne (by decide)]; exact hs.2.1, fun q hq => ?_, fun i hi => ?_⟩
  · rw [m2_ne (by decide)] at hq
    rw [m2_nk (by omega), m2_ne (by decide)]
    exact hs.2.2.1 q hq
  · rw [m2_ne (show 5 ≠ 4 by decide), m2_nk (show 14 + i ≠ 7 + h by omega)]
    by_cases e : i = h
    · subst e
      rw [m2_at, m2_at]
      exact ⟨rfl, hx⟩
    · rw [m2_nk (by omega), m2_nk e]
      exact hs.2.2.2 i hi
theorem MS_14 (hs : MS m g) (hP : g 0 0 ≤ 5) {h x : Nat} (hh : h < 7) : MS (m2 m 97 (14 + h) (nI x)) (m2 g 5 h x) := by
  refine ⟨by rw [m2_nk (by omega), m2_ne (by decide)]; exact hs.1, by rw [m2_nk (by omega), m2_ne (by decide)]; exact hs.2.1, fun q hq => ?_, fun i hi => ?_⟩
  · rw [m2_ne (by decide)] at hq
    rw [m2_nk (by omega), m2_ne (by decide)]
    exact hs.2.2.1 q hq
  · rw [m2_ne (show 4 ≠ 5 by decide), m2_nk (show 7 + i ≠ 14 + h by omega)]
    refine ⟨(hs.2.2.2 i hi).1, fun h9 => ?_⟩
    by_cases e : i = h
    · subst e
      rw [m2_at, m2_at]
    · rw [m2_nk (by omega), m2_nk e]
      exact (hs.2.2.2 i hi).2 h9
/-- the depth of one in the porch is nothing -/
theorem MS_14p (hs : MS m g) (hP : g 0 0 ≤ 5) {h : Nat} {x : Int32} (hh : h < 7) (h9 : g 4 h = 9) : MS (m2 m 97 (14 + h) x) g := by
  refine ⟨by rw [m2_nk (by omega)]; exact hs.1, by rw [m2_nk (by omega)]; exact hs.2.1, fun q hq => ?_, fun i hi => ?_⟩
  · rw [m2_nk (by omega)]
    exact hs.2.2.1 q hq
  · rw [m2_nk (show 7 + i ≠ 14 + h by omega)]
    refine ⟨(hs.2.2.2 i hi).1, fun h9' => ?_⟩
    by_cases e : i = h
    · subst e
      exact absurd h9 h9'
    · rw [m2_nk (by omega)]
      exact (hs.2.2.2 i hi).2 h9'
theorem m_lays (hs : MS m g) (hw : Wb g) {h p : Nat} (hh : h < 7) (hp : p < 9) : ∃ m', fX7_lays 93 (nI h) (nI p) (Mk m l) = some (Mk m' l) ∧ MS m' (put g h p) ∧ F1 97 m m' := by
  have hP := hw.1
  refine ⟨m2 (m2 m 97 (7 + h) (nI p)) 97 (14 + h) (nI (ht g p)), ?_, ?_, F1.tr F1.st F1.st⟩
  · rw [fX7_lays, grd_t M_o, if_neg (fun q => n1_ne (show p < 2 ^ 31 by omega) q.symm), m_manyIn hs hw hp]
    simp only [Option.bind_some, fX7_lays_14, M_r4, ad7, ad14, b97 (show 7 + h < 21 by omega), b97 (show 14 + h < 21 by omega)]
  · have e : m2 (m2 m 97 (7 + h) (nI p)) 97 (14 + h) (nI (ht g p)) = m2 (m2 m 97 (14 + h) (nI (ht g p))) 97 (7 + h) (plM p) := by
      funext c k
      simp only [m2, plM, if_neg (show ¬ p = 9 by omega)]
      by_cases q1 : c = 97 ∧ k = 14 + h
      · rw [if_pos q1, if_neg (by omega), if_pos q1]
      · rw [if_neg q1, if_neg q1]
    rw [e, put]
    refine MS_7 (MS_14 hs hP hh) (by rw [m2_ne (by decide)]; exact hP) hh (fun _ => ?_)
    rw [m2_at, m2_at]
theorem m_takes9 (hs : MS m g) (hw : Wb g) {h : Nat} (hh : h < 7) (h9 : g 4 h = 9) : ∃ m', fX7_takes 93 (nI h) (Mk m l) = some (0, Mk m' l) ∧ MS m' g ∧ F1 97 m m' := by
  have hP := hw.1
  refine ⟨m2 (m2 m 97 (7 + h) (plM 9)) 97 (14 + h) 0, ?_, ?_, F1.tr F1.st F1.st⟩
  · rw [fX7_takes, grd_t M_o]
    have e : FU = 999999999 + 1 := rfl
    simp only [M_r4, Option.bind_some, ad7, a97 (show 7 + h < 21 by omega), (hs.2.2.2 h hh).1, h9]
    rw [e, fX7_takes_15, if_neg (by decide), if_pos (show plM 9 = -1 from rfl)]
    simp only [fX7_takes_112, M_r4, Option.bind_some, ad7, ad14, show (-1 : Int32) = plM 9 from rfl, b97 (show 7 + h < 21 by omega), b97 (show 14 + h < 21 by omega)]
  · have h1 : MS (m2 m 97 (7 + h) (plM 9)) g := by
      have := MS_7 hs hP (h := h) (x := 9) hh (fun q => absurd rfl q)
      have e : m2 g 4 h 9 = g := by
        funext c k
        simp only [m2]
        by_cases q : c = 4 ∧ k = h
        · rw [if_pos q, q.1, q.2, h9]
        · rw [if_neg q]
      rwa [e] at this
    exact MS_14p h1 hP hh h9
theorem m_takes (hs : MS m g) (hw : Wb g) {h : Nat} (hh : h < 7) (h9 : g 4 h ≠ 9) : ∃ m', fX7_takes 93 (nI h) (Mk m l) = some (nI (mv g h), Mk m' l) ∧ MS m' (take g h) ∧ F1 97 m m' := by
  have hP := hw.1
  have e4 : ∀ j c i, c ≠ 5 → tkj g h j c i = g c i := fun j c i hc => by simp [tkj, hc]
  rw [fX7_takes, grd_t M_o]
  simp only [M_r4, Option.bind_some, ad7, a97 (show 7 + h < 21 by omega), (hs.2.2.2 h hh).1]
  have hpl : plM (g 4 h) = nI (g 4 h) := by rw [plM, if_neg h9]
  have hb := (hw.2.2.2.2 h hh).2.2
  rw [hpl]
  refine lpR (fun n j (s : Int32 × (Nat → Nat → Int32)) => fX7_takes_15 n 93 (nI h) (nI (g 4 h)) s.1 (nI j) (Mk s.2 l)) (fun j s => s.1 = nI (ct (ab g h) j) ∧ MS s.2 (tkj g h j) ∧ F1 97 m s.2) (fun o => ∃ m', o = some (nI (mv g h), Mk m' l) ∧ MS m' (take g h) ∧ F1 97 m m') 7 ?_ ?_ FU 0 (0, m) (by decide) (by decide) ⟨rfl, by rw [tkj_0]; exact hs, F1.rf⟩
  · intro n j s hj hI
    left
    obtain ⟨h1, h2, h3⟩ := hI
    have e1 : tkj g h j 5 h = g 5 h := by simp [tkj, ab_self]
    have e2 : tkj g h j 5 j = g 5 j := by simp [tkj]
    have pj : s.2 97 (7 + j) = plM (g 4 j) := by rw [(h2.2.2.2 j hj).1, e4 j 4 _ (by decide)]
    have dh : s.2 97 (14 + h) = nI (g 5 h) := by rw [(h2.2.2.2 h hh).2 (by rw [e4 j 4 _ (by decide)]; exact h9), e1]
    have dj : g 4 j ≠ 9 → s.2 97 (14 + j) = nI (g 5 j) := fun q => by rw [(h2.2.2.2 j hj).2 (by rw [e4 j 4 _ (by decide)]; exact q), e2]
    have b14 : ∀ x : Int32, bI 8 97 (nI (14 + j)) x (Mk s.2 l) = some (Mk (m2 s.2 97 (14 + j) x) l) := fun x => b97 (by omega)
    rw [fX7_takes_15, if_neg (by rw [show (7 : Int32) = nI 7 from rfl]; exact nI_ge hj (by decide)), if_neg (fun q => n1_ne (show g 4 h < 2 ^ 31 by omega) q.symm)]
    simp only [M_r4, Option.bind_some, ad7, ad14, a97 (show 7 + j < 21 by omega), a97 (show 14 + j < 21 by omega), a97 (show 14 + h < 21 by omega), pj, dh, fX7_takes_68, fX7_takes_91, b14, if_true, if_neg (show ¬ (1 : Int32) = 0 by decide)]
    by_cases q : ab g h j = true
    · rw [ab_iff] at q
      have q9 : g 4 j ≠ 9 := by omega
      have hbj := (hw.2.2.2.2 j hj).2.2
      rw [if_pos ((plM_eq (pl_le hw hj) (by omega)).mpr q.2.1), dj q9, if_neg (nI_ge q.2.2 (by omega))]
      obtain ⟨d, hd⟩ : ∃ d, g 5 j = d + 1 := ⟨g 5 j - 1, by omega⟩
      refine ⟨(nI (ct (ab g h) (j + 1)), m2 s.2 97 (14 + j) (nI (g 5 j - 1))), ⟨rfl, ?_, F1.tr h3 F1.st⟩, ?_⟩
      · rw [tkj_s, if_pos (ab_iff.mpr q)]
        exact MS_14 h2 (by rw [e4 j 0 _ (by decide)]; exact hP) hj
      · rw [ct, if_pos (ab_iff.mpr q), hd, show nI (d + 1) - 1 = nI d from nI_pred d, nI_1, h1, nI_1]
        rfl
    · refine ⟨(nI (ct (ab g h) (j + 1)), m2 s.2 97 (14 + j) (s.2 97 (14 + j) - 0)), ⟨rfl, ?_, F1.tr h3 F1.st⟩, ?_⟩
      · rw [tkj_s, if_neg q, Int32.sub_zero]
        have : m2 s.2 97 (14 + j) (s.2 97 (14 + j)) = s.2 := by
          funext c k
          simp only [m2]
          by_cases e : c = 97 ∧ k = 14 + j
          · rw [if_pos e, e.1, e.2]
          · rw [if_neg e]
        rw [this]
        exact h2
      · have en : ct (ab g h) (j + 1) = ct (ab g h) j := by rw [ct, if_neg q, Nat.add_zero]
        rw [en, h1, nI_1, Int32.add_zero]
        by_cases q2 : g 4 j = g 4 h
        · have q9 : g 4 j ≠ 9 := by omega
          have hbj := (hw.2.2.2.2 j hj).2.2
          have : ¬ g 5 h < g 5 j := fun q3 => q (ab_iff.mpr ⟨h9, q2, q3⟩)
          rw [if_pos ((plM_eq (pl_le hw hj) (by omega)).mpr q2), dj q9, if_pos (nI_le (by omega) (by omega))]
        · rw [if_neg (fun q => q2 ((plM_eq (pl_le hw hj) (by omega)).mp q))]
  · intro n s hI
    obtain ⟨h1, h2, h3⟩ := hI
    refine ⟨m2 (m2 s.2 97 (7 + h) (plM 9)) 97 (14 + h) 0, ?_, ?_, F1.tr h3 (F1.tr F1.st F1.st)⟩
    · rw [fX7_takes_15, if_pos (by decide)]
      simp only [fX7_takes_112, M_r4, Option.bind_some, ad7, ad14, show (-1 : Int32) = plM 9 from rfl, b97 (show 7 + h < 21 by omega), b97 (show 14 + h < 21 by omega), h1]
      rfl
    · have hP' : tkj g h 7 0 0 ≤ 5 := by rw [e4 7 0 _ (by decide)]; exact hP
      refine MS_14p (MS_7 h2 hP' hh (fun q => absurd rfl q)) ?_ hh ?_
      · rw [m2_ne (by decide)]; exact hP'
      · rw [m2_at]
end MWa
