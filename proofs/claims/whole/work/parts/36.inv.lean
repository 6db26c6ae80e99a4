/-! what the two hold: the green, those before it, those kept, the text, the sightings -/
abbrev Zt : Type := Gn × (Nat × (Nat → Gn)) × (Nat × (Nat → Gn)) × (Nat × (Nat → Int32)) × (Nat × (Nat → Nat → Nat))
def zg (z : Zt) : Gn := z.1
def zpn (z : Zt) : Nat := z.2.1.1
def zpf (z : Zt) : Nat → Gn := z.2.1.2
def zkn (z : Zt) : Nat := z.2.2.1.1
def zkf (z : Zt) : Nat → Gn := z.2.2.1.2
def ztn (z : Zt) : Nat := z.2.2.2.1.1
def ztf (z : Zt) : Nat → Int32 := z.2.2.2.1.2
def zsn (z : Zt) : Nat := z.2.2.2.2.1
def zsf (z : Zt) : Nat → Nat → Nat := z.2.2.2.2.2
/-- a green that may stand -/
def Og (g : Gn) : Prop := Wf g ∧ 0 < g 0 0 ∧ 0 < g 0 1 ∧ g 0 2 ≤ 999
def Zok (z : Zt) : Prop := Og (zg z) ∧ (zpn z ≤ 8 ∧ ∀ i, i < zpn z → Og (zpf z i) ∧ Sm (zg z) (zpf z i)) ∧ (zkn z ≤ 2 ∧ ∀ i, i < zkn z → Og (zkf z i) ∧ Sm (zg z) (zkf z i)) ∧ (ztn z ≤ 200 ∧ ∀ i, i < ztn z → ∃ k, 32 ≤ k ∧ k ≤ 126 ∧ ztf z i = nI k) ∧ (zsn z ≤ 6 ∧ ∀ i, i < zsn z → zsf z i 0 ≤ 20 ∧ zsf z i 1 < zg z 0 1 ∧ zsf z i 2 ≤ 1)
def CTx (m : Nat → Nat → Int32) (n : Nat) (f : Nat → Int32) : Prop := m 1 0 = nI n ∧ ∀ i, i < n → m 2 i = f i
def CSi (m : Nat → Nat → Int32) (n : Nat) (f : Nat → Nat → Nat) : Prop := m 80 0 = nI n ∧ ∀ i, i < n → m 81 i = nI (f i 0) ∧ m 82 i = nI (f i 1) ∧ m 83 i = nI (f i 2)
def CI (z : Zt) (m : Nat → Nat → Int32) (l : Nat → Nat → Int64) : Prop := CG 4 m l (zg z) ∧ Sh 16 8 18 m l (zpn z) (zpf z) ∧ Sh 66 2 68 m l (zkn z) (zkf z) ∧ CTx m (ztn z) (ztf z) ∧ CSi m (zsn z) (zsf z)
def MTx (m : Nat → Nat → Int32) (n : Nat) (f : Nat → Int32) : Prop := m 93 1 = nI n ∧ ∀ i, i < n → m 94 i = f i
def MRw (t k : Nat) (m : Nat → Nat → Int32) (n : Nat) (f : Nat → Gn) : Prop := m 93 k = nI n ∧ ∀ i, i < n → MR (fun j => m t (21 * i + j)) (f i)
def MSi (m : Nat → Nat → Int32) (n : Nat) (f : Nat → Nat → Nat) : Prop := m 93 10 = nI n ∧ ∀ i, i < n → m 100 (3 * i) = nI (f i 0) ∧ m 100 (3 * i + 1) = nI (f i 1) ∧ m 100 (3 * i + 2) = nI (f i 2)
def MI (z : Zt) (m : Nat → Nat → Int32) : Prop := (MT 95 m (zg z) ∧ MS m (zg z)) ∧ MRw 98 6 m (zpn z) (zpf z) ∧ MRw 99 8 m (zkn z) (zkf z) ∧ MTx m (ztn z) (ztf z) ∧ MSi m (zsn z) (zsf z)
def C6 (f : Mu → Option (Int32 × Mu)) (z : Zt) (r : Int32) (z' : Zt) : Prop := ∀ m l, CI z m l → ∃ m' l', f (Mk m l) = some (r, Mk m' l') ∧ CI z' m' l' ∧ ∀ c, 93 ≤ c → m' c = m c
def C7 (f : Mu → Option (Int32 × Mu)) (z : Zt) (r : Int32) (z' : Zt) : Prop := ∀ m l, MI z m → ∃ m', f (Mk m l) = some (r, Mk m' l) ∧ MI z' m' ∧ ∀ c, c < 93 → m' c = m c
/-- both answer alike, and hold alike after it -/
def Op (f6 f7 : Mu → Option (Int32 × Mu)) : Prop := ∀ z, Zok z → ∃ r z', C6 f6 z r z' ∧ C7 f7 z r z' ∧ Zok z'
section INa
variable {m m' : Nat → Nat → Int32} {l l' : Nat → Nat → Int64} {z : Zt}
theorem Sh_eq {sa C ba n : Nat} {f : Nat → Gn} (hS : isS sa C ba) (h : Sh sa C ba m l n f) (hm : ∀ c, sa ≤ c → c < ba + 6 * C → m' c = m c) (hl : ∀ c, sa ≤ c → c < ba + 6 * C → l' c = l c) : Sh sa C ba m' l' n f := by
  obtain ⟨h1, h2, nx, h3, h4, h5⟩ := h
  have h8 := S_C hS
  have hba := S_ba hS
  have e0 : m' sa = m sa := hm sa (Nat.le_refl _) (by omega)
  refine ⟨h1, by rw [e0]; exact h2, nx, h3, by rw [e0]; exact h4, fun i hi => ?_⟩
  have hlt := md (C := C) (x := nx + C - n + i) (by omega)
  exact CG_eq (h5 i hi) (fun c q1 q2 => hm c (by omega) (by omega)) (hl _ (by omega) (by omega))
theorem CTx_eq {n : Nat} {f : Nat → Int32} (h : CTx m n f) (h1 : m' 1 = m 1) (h2 : m' 2 = m 2) : CTx m' n f := by
  unfold CTx
  rw [h1, h2]
  exact h
theorem CSi_eq {n : Nat} {f : Nat → Nat → Nat} (h : CSi m n f) (h1 : ∀ c, 80 ≤ c → c < 84 → m' c = m c) : CSi m' n f := by
  unfold CSi
  rw [h1 80 (by decide) (by decide), h1 81 (by decide) (by decide), h1 82 (by decide) (by decide), h1 83 (by decide) (by decide)]
  exact h
theorem isS_p : isS 16 8 18 := Or.inl ⟨rfl, rfl, rfl⟩
theorem isS_k : isS 66 2 68 := Or.inr ⟨rfl, rfl, rfl⟩
/-- a class's look: only the trial, the packing and the odds change -/
def FQ (m m' : Nat → Nat → Int32) : Prop := ∀ c, c < 10 ∨ (15 < c ∧ c < 84) ∨ 92 < c → m' c = m c
def FQl (l l' : Nat → Nat → Int64) : Prop := ∀ c, c ≠ 10 → l' c = l c
theorem FQ.rf : FQ m m := fun _ _ => rfl
theorem FQl.rf : FQl l l := fun _ _ => rfl
theorem FQ.tr {m1 m2' : Nat → Nat → Int32} (h1 : FQ m m1) (h2 : FQ m1 m2') : FQ m m2' := fun c hc => (h2 c hc).trans (h1 c hc)
theorem FQl.tr {m1 m2' : Nat → Nat → Int64} (h1 : FQl l m1) (h2 : FQl m1 m2') : FQl l m2' := fun c hc => (h2 c hc).trans (h1 c hc)
theorem FQ_Fr (h : Fr 10 m m') : FQ m m' := fun c hc => h c (by omega)
theorem CG_FQ {g : Gn} (hc : CG 4 m l g) (hf : FQ m m') (hl : FQl l l') : CG 4 m' l' g := CG_eq hc (fun c h1 h2 => hf c (by omega)) (hl 4 (by decide))
theorem CI_FQ (h : CI z m l) (hf : FQ m m') (hl : FQl l l') : CI z m' l' := by
  obtain ⟨h1, h2, h3, h4, h5⟩ := h
  refine ⟨CG_FQ h1 hf hl, Sh_eq isS_p h2 (fun c q1 q2 => hf c (by omega)) (fun c q1 q2 => hl c (by omega)), Sh_eq isS_k h3 (fun c q1 q2 => hf c (by omega)) (fun c q1 q2 => hl c (by omega)), CTx_eq h4 (hf 1 (by omega)) (hf 2 (by omega)), CSi_eq h5 (fun c q1 q2 => hf c (by omega))⟩
/-- a model's look -/
def FN (m m' : Nat → Nat → Int32) : Prop := ∀ c, c ≠ 95 → c ≠ 97 → c < 101 → m' c = m c
theorem FN.rf : FN m m := fun _ _ _ _ => rfl
theorem FN.tr {m1 m2' : Nat → Nat → Int32} (h1 : FN m m1) (h2 : FN m1 m2') : FN m m2' := fun c q1 q2 q3 => (h2 c q1 q2 q3).trans (h1 c q1 q2 q3)
theorem FN_F1 {t : Nat} (h : F1 t m m') (ht : t = 95 ∨ t = 97 ∨ 101 ≤ t) : FN m m' := fun c q1 q2 q3 => h c (by omega)
theorem MRw_eq {t k n : Nat} {f : Nat → Gn} (h : MRw t k m n f) (h1 : m' 93 k = m 93 k) (h2 : m' t = m t) : MRw t k m' n f := by
  unfold MRw
  rw [h1, h2]
  exact h
theorem MI_FN (h : MI z m) (hf : FN m m') (ht : MT 95 m' (zg z)) (hs : MS m' (zg z)) : MI z m' := by
  obtain ⟨_, h2, h3, h4, h5⟩ := h
  have e93 : m' 93 = m 93 := hf 93 (by decide) (by decide) (by decide)
  refine ⟨⟨ht, hs⟩, MRw_eq h2 (by rw [e93]) (hf 98 (by decide) (by decide) (by decide)), MRw_eq h3 (by rw [e93]) (hf 99 (by decide) (by decide) (by decide)), ?_, ?_⟩
  · unfold MTx
    rw [e93, hf 94 (by decide) (by decide) (by decide)]
    exact h4
  · unfold MSi
    rw [e93, hf 100 (by decide) (by decide) (by decide)]
    exact h5
/-- a question that changes nothing -/
theorem C6_q {f : Mu → Option (Int32 × Mu)} {r : Int32} (h : ∀ m l, CI z m l → ∃ m' l', f (Mk m l) = some (r, Mk m' l') ∧ FQ m m' ∧ FQl l l') : C6 f z r z := by
  intro m l hc
  obtain ⟨m', l', e, h1, h2⟩ := h m l hc
  exact ⟨m', l', e, CI_FQ hc h1 h2, fun c hc => h1 c (by omega)⟩
theorem C6_p {f : Mu → Option (Int32 × Mu)} {r : Int32} (h : ∀ m l, CI z m l → f (Mk m l) = some (r, Mk m l)) : C6 f z r z := fun m l hc => ⟨m, l, h m l hc, hc, fun _ _ => rfl⟩
theorem C7_p {f : Mu → Option (Int32 × Mu)} {r : Int32} (h : ∀ m l, MI z m → f (Mk m l) = some (r, Mk m l)) : C7 f z r z := fun m l hc => ⟨m, h m l hc, hc, fun _ _ => rfl⟩
theorem C7_q {f : Mu → Option (Int32 × Mu)} {r : Int32} (h : ∀ m l, MI z m → ∃ m', f (Mk m l) = some (r, Mk m' l) ∧ FN m m' ∧ MT 95 m' (zg z) ∧ MS m' (zg z)) : C7 f z r z := by
  intro m l hc
  obtain ⟨m', e, h1, h2, h3⟩ := h m l hc
  exact ⟨m', e, MI_FN hc h1 h2 h3, fun c hc => h1 c (by omega) (by omega) (by omega)⟩
theorem Op_q {f6 f7 : Mu → Option (Int32 × Mu)} (h : ∀ z, Zok z → ∃ r, C6 f6 z r z ∧ C7 f7 z r z) : Op f6 f7 := by
  intro z hz
  obtain ⟨r, h1, h2⟩ := h z hz
  exact ⟨r, z, h1, h2, hz⟩
end INa
theorem c_within {x y z : Int32} {μ : Mu} : fX6_isWithin x y z μ = some (if x < y ∨ z < x then 0 else 1, μ) := by
  rw [fX6_isWithin]
  by_cases h1 : x < y
  · simp [h1]
  · by_cases h2 : z < x
    · simp [h1, h2, Int32.not_le.mpr h2]
    · simp [h1, h2, Int32.not_lt.mp h2]
theorem nI_bk {x : Int32} (h : ¬ x < 0) : ∃ k, k < 2 ^ 31 ∧ x = nI k := by
  have h0 : 0 ≤ x.toInt := by
    rw [Int32.lt_iff_toInt_lt] at h
    have : (0 : Int32).toInt = 0 := by decide
    omega
  have h1 : x.toInt < 2 ^ 31 := Int32.toInt_lt x
  refine ⟨x.toInt.toNat, by omega, ?_⟩
  apply Int32.toInt_inj.mp
  rw [nI_toInt (by omega)]
  omega
theorem inh {x : Int32} {n : Nat} (hb : n < 2 ^ 31) (h : ¬ (x < 0 ∨ nI n ≤ x)) : ∃ k, k < n ∧ x = nI k := by
  obtain ⟨k, hk, rfl⟩ := nI_bk (fun q => h (Or.inl q))
  refine ⟨k, ?_, rfl⟩
  by_cases q : k < n
  · exact q
  · exact absurd (Or.inr (nI_le (by omega) (by omega))) h
theorem inr {x : Int32} {a b : Nat} (ha : a < 2 ^ 31) (hb : b < 2 ^ 31) (h : ¬ (x < nI a ∨ nI b < x)) : ∃ k, a ≤ k ∧ k ≤ b ∧ x = nI k := by
  have h0 : ¬ x < 0 := by
    intro q
    refine h (Or.inl ?_)
    rw [Int32.lt_iff_toInt_lt] at q ⊢
    rw [nI_toInt ha]
    have : (0 : Int32).toInt = 0 := by decide
    omega
  obtain ⟨k, hk, rfl⟩ := nI_bk h0
  refine ⟨k, ?_, ?_, rfl⟩
  · by_cases q : a ≤ k
    · exact q
    · exact absurd (Or.inl (nI_lt (by omega) (by omega))) h
  · by_cases q : k ≤ b
    · exact q
    · exact absurd (Or.inr (nI_lt (by omega) (by omega))) h
section RF
variable {m : Nat → Nat → Int32} {l : Nat → Nat → Int64}
theorem X_o : isO 6 0 (Mk m l) := ⟨show 0 < 107 by decide, by decide⟩
theorem X_r0 : gR 6 0 0 (Mk m l) = some 1 := gRk ⟨show 0 < 107 by decide, by decide⟩ (by decide) (by decide) (by decide)
theorem X_r1 : gR 6 0 1 (Mk m l) = some 4 := gRk ⟨show 0 < 107 by decide, by decide⟩ (by decide) (by decide) (by decide)
theorem X_r2 : gR 6 0 2 (Mk m l) = some 10 := gRk ⟨show 0 < 107 by decide, by decide⟩ (by decide) (by decide) (by decide)
theorem X_r3 : gR 6 0 3 (Mk m l) = some 16 := gRk ⟨show 0 < 107 by decide, by decide⟩ (by decide) (by decide) (by decide)
theorem X_r4 : gR 6 0 4 (Mk m l) = some 66 := gRk ⟨show 0 < 107 by decide, by decide⟩ (by decide) (by decide) (by decide)
theorem X_r5 : gR 6 0 5 (Mk m l) = some 80 := gRk ⟨show 0 < 107 by decide, by decide⟩ (by decide) (by decide) (by decide)
theorem X_r6 : gR 6 0 6 (Mk m l) = some 84 := gRk ⟨show 0 < 107 by decide, by decide⟩ (by decide) (by decide) (by decide)
theorem X_r7 : gR 6 0 7 (Mk m l) = some 91 := gRk ⟨show 0 < 107 by decide, by decide⟩ (by decide) (by decide) (by decide)
end RF
