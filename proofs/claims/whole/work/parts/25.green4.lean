theorem sh_bit {x : Int64} {y : Nat} (hy : y < 40) : (lg_cmp ((x >>> ((nI y).toInt64 &&& 63)) &&& 1) 1 = 0) ↔ x.toBitVec.getLsbD y = true := by
  have hs : ((nI y).toInt64 &&& 63).toBitVec.smod 64 = BitVec.ofNat 64 y := by
    have : ∀ y, y < 40 → ((nI y).toInt64 &&& 63).toBitVec.smod 64 = BitVec.ofNat 64 y := by decide +kernel
    exact this y hy
  have h1 : lg_cmp ((x >>> ((nI y).toInt64 &&& 63)) &&& 1) 1 = 0 ↔ (x >>> ((nI y).toInt64 &&& 63)) &&& 1 = 1 := by
    unfold lg_cmp
    constructor
    · intro h
      split at h
      · exact absurd h (by decide)
      · split at h
        · assumption
        · exact absurd h (by decide)
    · intro h
      rw [h]
      decide
  rw [h1, ← Int64.toBitVec_inj, Int64.toBitVec_and, Int64.toBitVec_shiftRight, hs]
  have h2 : (BitVec.ofNat 64 y).toNat = y := by
    rw [BitVec.toNat_ofNat]
    omega
  have h3 : ((1 : Int64).toBitVec) = 1#64 := by decide
  rw [h3, BitVec.sshiftRight_eq', h2]
  constructor
  · intro h
    have := congrArg (fun b => b.getLsbD 0) h
    simp only [BitVec.getLsbD_and, BitVec.getLsbD_sshiftRight] at this
    simpa [show y < 64 by omega] using this
  · intro h
    apply BitVec.eq_of_getLsbD_eq
    intro i hi
    rw [BitVec.getLsbD_and, BitVec.getLsbD_sshiftRight]
    by_cases q : i = 0
    · subst q
      simp [h, show y < 64 by omega]
    · have : (1#64).getLsbD i = false := by
        rw [BitVec.getLsbD_one]
        simp [q]
      rw [this, Bool.and_false]
def fro (g : Gn) : Bool := decide (g 0 2 < 40) && (g 6 (g 0 2) == 1)
/-- taken up as far as j: those above it one less deep -/
def tkj (g : Gn) (h j : Nat) : Gn := fun c i => if c = 5 ∧ i < j ∧ ab g h i = true then g 5 i - 1 else g c i
def take (g : Gn) (h : Nat) : Gn := m2 (tkj g h 7) 4 h 9
def mv (g : Gn) (h : Nat) : Nat := ct (ab g h) 7
def put (g : Gn) (h p : Nat) : Gn := m2 (m2 g 5 h (ht g p)) 4 h p
/-- whether the one on top of the rabbits' plot is thrown out -/
def th (g : Gn) : Bool := let t := tp g (g 0 2 % g 0 0); !(t == 7) && (g 2 t == 0 || g 2 t == 2)
def y1 (g : Gn) : Gn := m2 (if th g then m2 g 4 (tp g (g 0 2 % g 0 0)) 9 else g) 0 2 (g 0 2 + 1)
def yN (g : Gn) : Nat → Gn
  | 0 => g
  | n + 1 => y1 (yN g n)
def tN (g : Gn) (n : Nat) : Nat := ct (fun i => th (yN g i)) n
theorem tkj_0 (g : Gn) (h : Nat) : tkj g h 0 = g := by
  funext c i
  simp [tkj]
theorem tkj_s (g : Gn) {h j : Nat} : tkj g h (j + 1) = if ab g h j = true then m2 (tkj g h j) 5 j (g 5 j - 1) else tkj g h j := by
  funext c i
  by_cases q : ab g h j = true
  · rw [if_pos q]
    by_cases hi : i = j
    · subst hi
      by_cases hc : c = 5
      · subst hc
        simp [tkj, m2, q]
      · simp [tkj, m2, hc]
    · by_cases h1 : i < j
      · simp [tkj, m2, hi, h1, show i < j + 1 by omega]
      · simp [tkj, m2, hi, h1, show ¬ i < j + 1 by omega]
  · rw [if_neg q]
    by_cases hi : i = j
    · subst hi
      simp [tkj, q]
    · by_cases h1 : i < j
      · simp [tkj, h1, show i < j + 1 by omega]
      · simp [tkj, h1, show ¬ i < j + 1 by omega]
theorem ab_self (g : Gn) (h : Nat) : ab g h h = false := by simp [ab]
theorem tkj_Wb {g : Gn} (hw : Wb g) (h j : Nat) : Wb (tkj g h j) := by
  have e : ∀ c i, c ≠ 5 → tkj g h j c i = g c i := fun c i hc => by simp [tkj, hc]
  refine ⟨by rw [e _ _ (by decide)]; exact hw.1, by rw [e _ _ (by decide)]; exact hw.2.1, by rw [e _ _ (by decide)]; exact hw.2.2.1, fun p hp => ?_, fun i hi => ?_⟩
  · rw [e _ _ (by decide)] at hp ⊢
    exact hw.2.2.2.1 p hp
  · rw [e 2 _ (by decide), e 3 _ (by decide), e 4 _ (by decide), e 0 _ (by decide), e 0 _ (by decide)]
    have b := hw.2.2.2.2 i hi
    refine ⟨b.1, b.2.1, ?_⟩
    rcases b.2.2 with q | q
    · exact Or.inl q
    · right
      refine ⟨q.1, q.2.1, ?_⟩
      rw [tkj]
      split <;> omega
section CGt
variable {a : Nat} {m : Nat → Nat → Int32} {l : Nat → Nat → Int64} {g : Gn}
theorem c_isFrost (ha : isG a) (hc : CG a m l g) (hw : Wb g) : fX0_isFrost a (Mk m l) = some (if fro g then 1 else 0, Mk m l) := by
  have hy := hw.2.2.1
  rw [fX0_isFrost, grd_t (G_o ha), G_gI ha, Option.bind_some, hc.1 2 (by decide), G_gL ha, Option.bind_some, Option.bind_some]
  by_cases h : g 0 2 < 40
  · rw [if_neg (by rw [show (40 : Int32) = nI 40 from rfl]; exact nI_ge h (by decide))]
    have e := hc.2.2.2 _ h
    by_cases q : g 6 (g 0 2) = 1
    · rw [if_pos ((sh_bit h).mpr (by rw [e]; simp [q])), show fro g = true by simp [fro, h, q]]
      rfl
    · rw [if_neg (fun z => q (by rw [sh_bit h, e] at z; simpa using z)), show fro g = false by simp [fro, q]]
      rfl
  · rw [if_pos (by rw [show (40 : Int32) = nI 40 from rfl]; exact nI_le (by omega) (by omega)), show fro g = false by simp [fro, h]]
    rfl
theorem c_canBePutIn (ha : isG a) (hc : CG a m l g) (hw : Wb g) {h p : Nat} (hh : h < g 0 1) (hp : p < g 0 0) : fX0_canBePutIn a (nI h) (nI p) (Mk m l) = some (if g 4 h = 9 ∧ fro g = false ∧ fit g (g 2 h) p = true then 1 else 0, Mk m l) := by
  have h5 := hw.1
  rw [fX0_canBePutIn, grd_t (G_o ha), c_lies ha hc hw hh]
  by_cases h9 : g 4 h = 9
  · simp only [Option.bind_some, if_pos h9, if_true, c_isFrost ha hc hw, c_hasRoomFor ha hc hw hh hp, if_neg (show ¬ g 4 h = p by omega)]
    by_cases hf : fro g = true
    · simp [hf]
    · simp only [Bool.not_eq_true] at hf
      by_cases q : fit g (g 2 h) p = true
      · simp [hf, q, h9]
      · simp [hf, q]
  · simp [h9]
theorem c_setOnTop (ha : isG a) (hc : CG a m l g) (hw : Wb g) {h p : Nat} (hh : h < g 0 1) (hp : p < g 0 0) : ∃ m', fX0_setOnTop a (nI h) (nI p) (Mk m l) = some (Mk m' l) ∧ CG a m' l (put g h p) ∧ Fr a m m' := by
  have h5 := hw.1
  have h7 := hw.2.1
  refine ⟨m2 (m2 m (a + 5) h (nI (ht g p))) (a + 4) h (plI p), ?_, ?_, ?_⟩
  · rw [fX0_setOnTop, grd_t (G_o ha), c_hasHour ha hc hw hh]
    simp only [Option.bind_some, if_neg (show ¬ (1 : Int32) = 0 by decide), c_hasPlot ha hc hw hp, G_r9 ha, c_heightOf ha hc hw (show p < 9 by omega), G_b5 ha (show h < 7 by omega), G_r8 ha, G_b4 ha (show h < 7 by omega)]
    rw [plI, if_neg (by omega)]
  · exact CG_4 (CG_5 hc) (fun _ => by rw [m2_at, m2_at])
  · exact Fr.tr (Fr.st (by omega) (by omega)) (Fr.st (by omega) (by omega))
theorem c_setKind (ha : isG a) (hc : CG a m l g) (hw : Wb g) {h k : Nat} (hh : h < g 0 1) : ∃ m', fX0_setKind a (nI h) (nI k) (Mk m l) = some (Mk m' l) ∧ CG a m' l (m2 g 2 h k) ∧ Fr a m m' := by
  have h7 := hw.2.1
  refine ⟨m2 m (a + 2) h (nI k), ?_, CG_2 hc, Fr.st (by omega) (by omega)⟩
  rw [fX0_setKind, grd_t (G_o ha), c_hasHour ha hc hw hh]
  simp only [Option.bind_some, if_neg (show ¬ (1 : Int32) = 0 by decide), G_r6 ha, G_b2 ha (show h < 7 by omega)]
theorem c_deepen (ha : isG a) (hc : CG a m l g) (hw : Wb g) {p : Nat} (hp : p < g 0 0) : ∃ m', fX0_deepen a (nI p) (Mk m l) = some (Mk m' l) ∧ CG a m' l (m2 g 1 p (g 1 p + 1)) ∧ Fr a m m' := by
  have h5 := hw.1
  refine ⟨m2 m (a + 1) p (nI (g 1 p + 1)), ?_, CG_1 hc, Fr.st (by omega) (by omega)⟩
  rw [fX0_deepen, grd_t (G_o ha), c_hasPlot ha hc hw hp]
  simp only [Option.bind_some, if_neg (show ¬ (1 : Int32) = 0 by decide), G_r5 ha, G_a1 ha (show p < 5 by omega), hc.2.1 p hp, nI_1, G_b1 ha (show p < 5 by omega)]
theorem c_takeUp (ha : isG a) (hc : CG a m l g) (hw : Wb g) {h : Nat} (hh : h < g 0 1) (h9 : g 4 h ≠ 9) : ∃ m', fX0_takeUp a (nI h) (Mk m l) = some (nI (mv g h), Mk m' l) ∧ CG a m' l (m2 (take g h) 0 3 (g 0 3 + mv g h)) ∧ Fr a m m' := by
  have h7 := hw.2.1
  rw [fX0_takeUp, grd_t (G_o ha), c_lies ha hc hw hh]
  simp only [Option.bind_some, if_neg h9, if_neg (show ¬ (1 : Int32) = 0 by decide)]
  have e4 : ∀ j c i, c ≠ 5 → tkj g h j c i = g c i := fun j c i hc => by simp [tkj, hc]
  refine lpR (fun n j (s : Int32 × (Nat → Nat → Int32)) => fX0_takeUp_14 n a (nI h) s.1 (nI j) (Mk s.2 l)) (fun j s => s.1 = nI (ct (ab g h) j) ∧ CG a s.2 l (tkj g h j) ∧ Fr a m s.2) (fun o => ∃ m', o = some (nI (mv g h), Mk m' l) ∧ CG a m' l (m2 (take g h) 0 3 (g 0 3 + mv g h)) ∧ Fr a m m') 7 ?_ ?_ FU 0 (0, m) (by decide) (by decide) ⟨rfl, by rw [tkj_0]; exact hc, Fr.rf⟩
  · intro n j s hj hI
    left
    obtain ⟨h1, h2, h3⟩ := hI
    have hwj := tkj_Wb hw h j
    have habj : ab (tkj g h j) h j = ab g h j := by
      have e1 : tkj g h j 5 h = g 5 h := by simp [tkj, ab_self]
      have e2 : tkj g h j 5 j = g 5 j := by simp [tkj]
      simp only [ab, e4 j 4 _ (by decide), e1, e2]
    have hab : fX0_isAbove a (nI j) (nI h) (Mk s.2 l) = some (if ab g h j then 1 else 0, Mk s.2 l) := by
      by_cases hjN : j < g 0 1
      · rw [c_isAbove ha h2 hwj (by rw [e4 j 0 _ (by decide)]; exact hh) (by rw [e4 j 0 _ (by decide)]; exact hjN), habj]
      · rw [c_isAbove0 ha h2 hwj (by rw [e4 j 0 _ (by decide)]; exact hh) (Or.inr (by rw [e4 j 0 _ (by decide)]; exact nI_le (by omega) (by omega))) (by rw [e4 j 4 _ (by decide)]; exact h9)]
        have b := (hw.2.2.2.2 j hj).2.2
        have hj9 : g 4 j = 9 := by omega
        have : ab g h j = false := by
          simp only [ab, hj9, Bool.and_eq_false_iff]
          right
          left
          simp
          exact fun q => h9 q.symm
        rw [this]
        rfl
    by_cases q : ab g h j = true
    · refine ⟨(nI (ct (ab g h) (j + 1)), m2 s.2 (a + 5) j (nI (g 5 j - 1))), ⟨rfl, ?_, Fr.tr h3 (Fr.st (by omega) (by omega))⟩, ?_⟩
      · rw [tkj_s, if_pos q]
        exact CG_5 h2
      · rw [fX0_takeUp_14, if_neg (by rw [show (7 : Int32) = nI 7 from rfl]; exact nI_ge hj (by decide)), hab, Option.bind_some]
        have hq9 : g 4 j ≠ 9 := by
          simp only [ab, Bool.and_eq_true, beq_iff_eq] at q
          omega
        have hd : 0 < g 5 j := by
          simp only [ab, Bool.and_eq_true, decide_eq_true_eq] at q
          omega
        have e5 : s.2 (a + 5) j = nI (g 5 j) := by
          rw [(h2.2.2.1 j hj).2.2.2 (by rw [e4 j 4 _ (by decide)]; exact hq9)]
          simp [tkj]
        obtain ⟨d, hd'⟩ : ∃ d, g 5 j = d + 1 := ⟨g 5 j - 1, by omega⟩
        simp only [q, if_true, if_neg (show ¬ (1 : Int32) = 0 by decide), G_r9 ha, G_a5 ha hj, Option.bind_some, e5, hd', nI_pred, G_b5 ha hj, nI_1, h1]
        rw [ct]
        simp [q]
    · refine ⟨(nI (ct (ab g h) (j + 1)), s.2), ⟨rfl, ?_, h3⟩, ?_⟩
      · rw [tkj_s, if_neg q]
        exact h2
      · rw [fX0_takeUp_14, if_neg (by rw [show (7 : Int32) = nI 7 from rfl]; exact nI_ge hj (by decide)), hab, Option.bind_some]
        simp only [Bool.not_eq_true] at q
        simp only [q, Bool.false_eq_true, if_false, if_true, nI_1, h1]
        rw [ct]
        simp [q]
  · intro n s hI
    obtain ⟨h1, h2, h3⟩ := hI
    refine ⟨m2 (m2 s.2 (a + 4) h (plI 9)) a 3 (nI (g 0 3 + mv g h)), ?_, ?_, Fr.tr h3 (Fr.tr (Fr.st (by omega) (by omega)) (Fr.st (by omega) (by omega)))⟩
    · have e3 : m2 s.2 (a + 4) h (plI 9) a 3 = nI (g 0 3) := by
        rw [m2_ne (by omega), h2.1 3 (by decide), e4 7 0 _ (by decide)]
      rw [fX0_takeUp_14, if_pos (by decide)]
      simp only [G_r8 ha, Option.bind_some, show (-4 : Int32) = plI 9 from rfl, G_b4 ha (show h < 7 by omega), G_gI ha, e3, h1, nI_add, G_pI ha]
      rfl
    · exact CG_0 (CG_4 h2 (fun q => absurd rfl q)) (by decide)
end CGt
