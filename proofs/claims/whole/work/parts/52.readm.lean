/-! the model reads -/
def FT (m m' : Nat → Nat → Int32) : Prop := (∀ c, c ≠ 93 → c ≠ 96 → c ≠ 97 → m' c = m c) ∧ ∀ k, k ≠ 11 → m' 93 k = m 93 k
/-- only where it reads has changed -/
def Fa (m m' : Nat → Nat → Int32) : Prop := (∀ c, c ≠ 93 → m' c = m c) ∧ ∀ k, k ≠ 11 → m' 93 k = m 93 k
section RMa
variable {m m' m1 : Nat → Nat → Int32} {l l' : Nat → Nat → Int64} {g : Gn} {n : Nat} {f : Nat → Int32} {c : Nat → Nat} {z : Zt}
theorem FT.rf : FT m m := ⟨fun _ _ _ _ => rfl, fun _ _ => rfl⟩
theorem FT.tr (h1 : FT m m1) (h2 : FT m1 m') : FT m m' := ⟨fun c q1 q2 q3 => (h2.1 c q1 q2 q3).trans (h1.1 c q1 q2 q3), fun k q => (h2.2 k q).trans (h1.2 k q)⟩
theorem Fa.rf : Fa m m := ⟨fun _ _ => rfl, fun _ _ => rfl⟩
theorem Fa.tr (h1 : Fa m m1) (h2 : Fa m1 m') : Fa m m' := ⟨fun c q1 => (h2.1 c q1).trans (h1.1 c q1), fun k q => (h2.2 k q).trans (h1.2 k q)⟩
theorem Fa.st {x : Int32} : Fa m (m2 m 93 11 x) := ⟨fun c q => m2_ne q, fun k q => m2_nk q⟩
theorem FT_a (h : Fa m m') : FT m m' := ⟨fun c q1 _ _ => h.1 c q1, h.2⟩
theorem FT_7 (h : F1 97 m m') : FT m m' := ⟨fun c _ _ q => h c q, fun k _ => by rw [h 93 (by decide)]⟩
theorem FT_6 (h : F1 96 m m') : FT m m' := ⟨fun c _ q _ => h c q, fun k _ => by rw [h 93 (by decide)]⟩
theorem MTx_FT (h : MTx m n f) (hf : FT m m') : MTx m' n f := by
  unfold MTx
  rw [hf.2 1 (by decide), hf.1 94 (by decide) (by decide) (by decide)]
  exact h
theorem MS_Fa (h : MS m g) (hf : Fa m m') : MS m' g := by
  rw [MS_MR, hf.1 97 (by decide)]
  exact h
theorem MT_Fa {t : Nat} (ht : t ≠ 93) (h : MT t m g) (hf : Fa m m') : MT t m' g := by
  unfold MT
  rw [hf.1 t ht]
  exact h
theorem m_letterAt (hl : Lt' n f c) (ht : MTx m n f) {i : Nat} (hi : i < 1000) : fX7_letterAt 93 (nI i) (Mk m l) = some (if i < n then nI (c i) else -1, Mk m l) := by
  have hn := hl.1
  rw [fX7_letterAt, grd_t M_o, M_gI, bS, ht.1]
  by_cases q : i < n
  · rw [if_neg (nI_ge q (by omega)), if_pos q, M_r0, bS, a94 (by omega), bS, ht.2 i q, (hl.2.1 i q).2.2]
  · rw [if_pos (nI_le (by omega) (by omega)), if_neg q]
theorem m_isFig (hl : Lt' n f c) {i : Nat} {μ : Mu} : fX7_isFigure (if i < n then nI (c i) else -1) μ = some (if dgt (c i) then 1 else 0, μ) := by
  rw [fX7_isFigure, m_in, bS]
  have hc := c_lt hl i
  by_cases q : i < n
  · rw [if_pos q, show (48 : Int32) = nI 48 from rfl, show (57 : Int32) = nI 57 from rfl]
    by_cases q2 : dgt (c i) = true
    · rw [if_neg (fun e => (wi (by omega) (by decide) (by decide)).mp e (dgt_t.mp q2)), if_pos q2, grd_t (Or.inr rfl)]
    · rw [if_pos ((wi (by omega) (by decide) (by decide)).mpr (fun e => q2 (dgt_t.mpr e))), if_neg q2, grd_t (Or.inl rfl)]
  · have h0 := hl.2.2 i (by omega)
    rw [if_neg q, if_pos (by decide), grd_t (Or.inl rfl), h0]
    rfl
theorem m_sep (hl : Lt' n f c) {i e : Nat} (he : e ≠ 0) (he2 : e < 1000) : ((if i < n then nI (c i) else -1) = nI e) ↔ c i = e := by
  have hc := c_lt hl i
  by_cases q : i < n
  · rw [if_pos q, nI_inj (by omega) (by omega)]
  · rw [if_neg q, hl.2.2 i (by omega)]
    constructor
    · intro e'
      exact absurd e' (n1_ne (by omega))
    · intro e'
      exact absurd e'.symm he
theorem m_109 {v x : Int32} {i : Nat} (hat : m 93 11 = nI i) : fX7_number_109 93 v x (Mk m l) = some (if x = 0 then -1 else v, Mk (m2 m 93 11 (nI (i + 1))) l) := by
  rw [fX7_number_109, M_gI, bS, hat, nI_1, M_pI, bS]
  split <;> rfl
theorem m_82 (hl : Lt' n f c) (ht : MTx m n f) {i e v : Nat} {lo hi : Int32} {ok : Prop} (hin : (nI v < lo ∨ hi < nI v) ↔ ¬ ok) (he : e ≠ 0) (he2 : e < 1000) (hat : m 93 11 = nI i) (hi' : i < 1000) : ((ok ∧ c i = e) ∧ fX7_number_82 93 lo hi (nI e) (nI v) (Mk m l) = some (nI v, Mk (m2 m 93 11 (nI (i + 1))) l)) ∨ (¬ (ok ∧ c i = e) ∧ fX7_number_82 93 lo hi (nI e) (nI v) (Mk m l) = some (-1, Mk (m2 m 93 11 (nI (i + 1))) l)) := by
  rw [fX7_number_82, m_in, bS]
  by_cases q : ok
  · rw [if_neg (fun e => hin.mp e q), if_neg n0, M_gI, bS, hat, m_letterAt hl ht hi', bS]
    by_cases q2 : c i = e
    · left
      rw [if_pos ((m_sep hl he he2).mpr q2), m_109 hat, if_neg n0]
      exact ⟨⟨q, q2⟩, rfl⟩
    · right
      rw [if_neg (fun e' => q2 ((m_sep hl he he2).mp e')), m_109 hat, if_pos rfl]
      exact ⟨fun e' => q2 e'.2, rfl⟩
  · right
    rw [if_pos (hin.mpr q), if_pos rfl, m_109 hat, if_pos rfl]
    exact ⟨fun e' => q e'.1, rfl⟩
theorem m_number (hl : Lt' n f c) (ht : MTx m n f) {i e : Nat} {lo hi : Int32} {ok : Nat → Prop} (hin : ∀ v, v < 100 → ((nI v < lo ∨ hi < nI v) ↔ ¬ ok v)) (he : e ≠ 0) (he2 : e < 1000) (hat : m 93 11 = nI i) (hi' : i < 900) : ∃ r m', fX7_number 93 lo hi (nI e) (Mk m l) = some (r, Mk m' l) ∧ Fa m m' ∧ ((∃ a, rd c i e = some a ∧ ok a.1 ∧ r = nI a.1 ∧ m' 93 11 = nI a.2) ∨ ((∀ a, rd c i e = some a → ¬ ok a.1) ∧ r = -1)) := by
  rw [fX7_number, grd_t M_o, M_gI, bS, hat, m_letterAt hl ht (by omega), bS, m_isFig hl, bS]
  by_cases h0 : dgt (c i) = false
  · have hf : fg c i = 0 := fg_0.mpr h0
    rw [h0, if_neg (show ¬ false = true by decide), if_pos rfl]
    refine ⟨-1, m, rfl, Fa.rf, Or.inr ⟨fun a h => ?_, rfl⟩⟩
    rw [rd, if_pos hf] at h
    exact absurd h (by simp)
  · have h1 : dgt (c i) = true := by simpa using h0
    have h1' := dgt_t.mp h1
    have hf0 : fg c i ≠ 0 := fun e => h0 (fg_0.mp e)
    have hin1 : i < n := by
      by_cases q : i < n
      · exact q
      · have := hl.2.2 i (by omega)
        omega
    have hat1 : m2 m 93 11 (nI (i + 1)) 93 11 = nI (i + 1) := m2_at
    have ht1 : MTx (m2 m 93 11 (nI (i + 1))) n f := MTx_FT ht (FT_a Fa.st)
    rw [if_pos h1, if_neg n0, M_gI, bS, hat, m_letterAt hl ht (by omega), bS, M_gI, bS, hat, nI_1, M_pI, bS, M_gI, bS, hat1, m_letterAt hl ht1 (by omega), bS, m_isFig hl, bS, if_pos hin1]
    by_cases h2 : dgt (c (i + 1)) = false
    · have hf : fg c i = 1 := by
        unfold fg
        rw [if_neg h0, if_pos h2]
      have hnb : nb c i = c i - 48 := by
        unfold nb
        rw [if_pos hf]
      rw [h2, if_neg (show ¬ false = true by decide), if_pos rfl, show (48 : Int32) = nI 48 from rfl, nI_sub h1'.1]
      rcases m_82 (l := l) hl ht1 (hin (c i - 48) (by omega)) he he2 hat1 (by omega) with ⟨h3, e3⟩ | ⟨h3, e3⟩
      · refine ⟨_, _, e3, Fa.st.tr Fa.st, Or.inl ⟨(nb c i, i + fg c i + 1), ?_, ?_, ?_, ?_⟩⟩
        · rw [rd, if_neg hf0, hf, if_pos h3.2]
        · rw [hnb]
          exact h3.1
        · rw [hnb]
        · rw [m2_at, hf]
      · refine ⟨_, _, e3, Fa.st.tr Fa.st, Or.inr ⟨fun a h => ?_, rfl⟩⟩
        have hs := rd_some h
        rw [hf] at hs
        intro hok
        rw [hs.2.2.2.2.1, hnb] at hok
        exact h3 ⟨hok, hs.2.2.2.2.2.2⟩
    · have h3 : dgt (c (i + 1)) = true := by simpa using h2
      have h3' := dgt_t.mp h3
      have hf : fg c i = 2 := by
        unfold fg
        rw [if_neg h0, if_neg h2]
      have hnb : nb c i = 10 * (c i - 48) + (c (i + 1) - 48) := by
        unfold nb
        rw [if_neg (by rw [hf]; decide)]
      have hin2 : i + 1 < n := by
        by_cases q : i + 1 < n
        · exact q
        · have := hl.2.2 (i + 1) (by omega)
          omega
      have hat2 : m2 (m2 m 93 11 (nI (i + 1))) 93 11 (nI (i + 1 + 1)) 93 11 = nI (i + 1 + 1) := m2_at
      have ht2 : MTx (m2 (m2 m 93 11 (nI (i + 1))) 93 11 (nI (i + 1 + 1))) n f := MTx_FT ht1 (FT_a Fa.st)
      rw [if_pos h3, if_neg n0, M_gI, bS, hat1, m_letterAt hl ht1 (by omega), bS, M_gI, bS, hat1, nI_1, M_pI, bS, if_pos hin2, show (48 : Int32) = nI 48 from rfl, show (10 : Int32) = nI 10 from rfl, nI_sub h1'.1, nI_mul, nI_add, nI_sub (by omega), show 10 * (c i - 48) + c (i + 1) - 48 = nb c i by rw [hnb]; omega]
      rcases m_82 (l := l) hl ht2 (hin (nb c i) (nb_lt hf0)) he he2 hat2 (by omega) with ⟨h4, e4⟩ | ⟨h4, e4⟩
      · refine ⟨_, _, e4, Fa.st.tr (Fa.st.tr Fa.st), Or.inl ⟨(nb c i, i + fg c i + 1), ?_, h4.1, rfl, ?_⟩⟩
        · rw [rd, if_neg hf0, hf, if_pos h4.2]
        · rw [m2_at, hf]
      · refine ⟨_, _, e4, Fa.st.tr (Fa.st.tr Fa.st), Or.inr ⟨fun a h => ?_, rfl⟩⟩
        have hs := rd_some h
        rw [hf] at hs
        intro hok
        rw [hs.2.2.2.2.1] at hok
        exact h4 ⟨hok, hs.2.2.2.2.2.2⟩
theorem m_lays9 (hs : MS m g) (hw : Wb g) {h : Nat} (hh : h < 7) (h9 : g 4 h = 9) : ∃ m', fX7_lays 93 (nI h) (-1) (Mk m l) = some (Mk m' l) ∧ MS m' g ∧ F1 97 m m' := by
  have hP := hw.1
  refine ⟨m2 (m2 m 97 (7 + h) (plM 9)) 97 (14 + h) 0, ?_, ?_, F1.tr F1.st F1.st⟩
  · rw [fX7_lays, grd_t M_o, if_pos rfl]
    simp only [fX7_lays_14, M_r4, bS, ad7, ad14, show (-1 : Int32) = plM 9 from rfl, b97 (show 7 + h < 21 by omega), b97 (show 14 + h < 21 by omega)]
  · have h1 : MS (m2 m 97 (7 + h) (plM 9)) g := by
      have := MS_7 hs hP (h := h) (x := 9) hh (fun q => absurd rfl q)
      have e : m2 g 4 h 9 = g := by
        funext c k
        simp only [m2]
        by_cases q : c = 4 ∧ k = h
        · rw [if_pos q, q.1, q.2, h9]
        · rw [if_neg q]
      rwa [e] at this
    exact MS_14p h1 hP hh h9
/-- the draft with one hour more -/
theorem MT_addH (ht : MT 96 m g) (h7 : g 0 1 < 7) {k w : Nat} : MT 96 (m2 (m2 (m2 m 96 (2 + g 0 1) (nI k)) 96 (9 + g 0 1) (nI w)) 96 1 (nI (g 0 1 + 1))) (addH g k w) := by
  refine ⟨?_, ?_, fun h hh => ?_, fun y hy => ?_⟩
  · rw [m2_nk (by decide), m2_nk (by omega), m2_nk (by omega), addH_0 (by decide)]
    exact ht.1
  · rw [m2_at, addH_1]
  · rw [addH_2, addH_3, m2_nk (show 2 + h ≠ 1 by omega), m2_nk (show 2 + h ≠ 9 + g 0 1 by omega), m2_nk (show 9 + h ≠ 1 by omega)]
    by_cases e : h = g 0 1
    · rw [if_pos e, if_pos e, e, m2_at, m2_at]
      exact ⟨rfl, rfl⟩
    · rw [if_neg e, if_neg e, m2_nk (by omega), m2_nk (by omega), m2_nk (by omega)]
      exact ht.2.2.1 h hh
  · rw [m2_nk (by omega), m2_nk (by omega), m2_nk (by omega), addH_c (by decide) (by decide) (by decide)]
    exact ht.2.2.2 y hy
theorem MS_addH (hs : MS m g) {k w : Nat} : MS m (addH g k w) := by
  refine ⟨by rw [addH_0 (by decide)]; exact hs.1, by rw [addH_0 (by decide)]; exact hs.2.1, fun p hp => ?_, fun h hh => ?_⟩
  · rw [addH_0 (by decide)] at hp
    rw [addH_c (by decide) (by decide) (by decide)]
    exact hs.2.2.1 p hp
  · rw [addH_c (by decide) (by decide) (by decide), addH_c (by decide) (by decide) (by decide)]
    exact hs.2.2.2 h hh
theorem m_newHour (hs : MS m g) (ht : MT 96 m g) (hw : Wf g) (h7 : g 0 1 < 7) {k w : Nat} (hk : k ≤ 3) (hw2 : w ≤ 20) {x : Int32} {g' : Gn} (hx : (x = -1 ∧ g' = addH g k w) ∨ ∃ p, p < g 0 0 ∧ x = nI p ∧ g' = put (addH g k w) (g 0 1) p) : ∃ m', fX7_newHour 93 (nI k) (nI w) x (Mk m l) = some (Mk m' l) ∧ MS m' g' ∧ MT 96 m' g' ∧ FT m m' ∧ m' 93 = m 93 := by
  have hwh := Wf_addH hw hk hw2 h7
  have h5 := hw.1.1
  have s1 : MS (m2 (m2 (m2 m 96 (2 + g 0 1) (nI k)) 96 (9 + g 0 1) (nI w)) 96 1 (nI (g 0 1 + 1))) (addH g k w) := by
    rw [MS_MR, m2_ne (by decide), m2_ne (by decide), m2_ne (by decide)]
    exact MS_addH hs
  have t1 := MT_addH ht h7 (k := k) (w := w)
  have f1 : F1 96 m (m2 (m2 (m2 m 96 (2 + g 0 1) (nI k)) 96 (9 + g 0 1) (nI w)) 96 1 (nI (g 0 1 + 1))) := F1.tr F1.st (F1.tr F1.st F1.st)
  have h9 : addH g k w 4 (g 0 1) = 9 := by
    rw [addH_c (by decide) (by decide) (by decide)]
    exact porch hw.1 (Nat.le_refl _) h7
  have e1 : m2 (m2 m 96 (2 + g 0 1) (nI k)) 96 (9 + g 0 1) (nI w) 96 1 = nI (g 0 1) := by
    rw [m2_nk (by omega), m2_nk (by omega)]
    exact ht.2.1
  have est : fX7_newHour 93 (nI k) (nI w) x (Mk m l) = (fX7_lays 93 (nI (g 0 1)) x (Mk (m2 (m2 (m2 m 96 (2 + g 0 1) (nI k)) 96 (9 + g 0 1) (nI w)) 96 1 (nI (g 0 1 + 1))) l)).bind fun q19 => some q19 := by
    rw [fX7_newHour, grd_t M_o]
    simp only [M_r3, bS, a96_1, ht.2.1, ad2, ad9, b96 (show 2 + g 0 1 < 56 by omega), b96 (show 9 + g 0 1 < 56 by omega), e1, nI_1, b96_1]
  rcases hx with ⟨rfl, rfl⟩ | ⟨p, hp, rfl, rfl⟩
  · obtain ⟨m3, e3, s3, f3⟩ := m_lays9 (l := l) s1 hwh.1 h7 h9
    refine ⟨m3, by rw [est, e3, bS], s3, MT_F1 t1 f3 (by decide), (FT_6 f1).tr (FT_7 f3), by rw [f3 93 (by decide), f1 93 (by decide)]⟩
  · obtain ⟨m3, e3, s3, f3⟩ := m_lays (l := l) s1 hwh.1 h7 (show p < 9 by omega)
    refine ⟨m3, by rw [est, e3, bS], s3, MT_S (MT_F1 t1 f3 (by decide)) Sm_put, (FT_6 f1).tr (FT_7 f3), by rw [f3 93 (by decide), f1 93 (by decide)]⟩
end RMa
