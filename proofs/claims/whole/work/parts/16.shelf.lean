theorem n_pI {t a k : Nat} {x : Int32} {μ μ' : Mu} (h : pI t a k x μ = some μ') : μ'.1 = μ.1 := by
  cases grd_v h
  rfl
theorem n_pL {t a k : Nat} {x : Int64} {μ μ' : Mu} (h : pL t a k x μ = some μ') : μ'.1 = μ.1 := by
  cases grd_v h
  rfl
theorem n_pR {t a k x : Nat} {μ μ' : Mu} (h : pR t a k x μ = some μ') : μ'.1 = μ.1 := by
  cases grd_v h
  rfl
theorem n_bI {t a : Nat} {i x : Int32} {μ μ' : Mu} (h : bI t a i x μ = some μ') : μ'.1 = μ.1 := by
  cases grd_v h
  rfl
theorem n_bR {a : Nat} {i : Int32} {x : Nat} {μ μ' : Mu} (h : bR a i x μ = some μ') : μ'.1 = μ.1 := by
  cases grd_v h
  rfl
theorem n_nA {t : Nat} {n : Int32} {μ : Mu} {q : Nat × Mu} (h : nA t n μ = some q) : q.2.1 = μ.1 + 1 := by
  cases grd_v h
  rfl
theorem n_nO {t : Nat} {μ : Mu} {q : Nat × Mu} (h : nO t μ = some q) : q.2.1 = μ.1 + 1 := by
  cases grd_v h
  rfl
theorem n_X0_clear_27 : ∀ (n v0 : Nat) (v1 : Int32) (μ r : Mu), fX0_clear_27 n v0 v1 μ = some r → r.1 = μ.1 := by
  intro n
  induction n with
  | zero =>
    intro v0 v1 μ r hf
    simp [fX0_clear_27] at hf
  | succ n ih =>
    intro v0 v1 μ r hf
    rw [fX0_clear_27] at hf
    by_cases h : 7 ≤ v1
    · rw [if_pos h] at hf
      cases hf
      rfl
    · rw [if_neg h] at hf
      obtain ⟨x12, -, hf⟩ := bnd hf
      obtain ⟨m1, h1, hf⟩ := bnd hf
      obtain ⟨x13, -, hf⟩ := bnd hf
      obtain ⟨m2, h2, hf⟩ := bnd hf
      obtain ⟨x14, -, hf⟩ := bnd hf
      obtain ⟨m3, h3, hf⟩ := bnd hf
      obtain ⟨x15, -, hf⟩ := bnd hf
      obtain ⟨m4, h4, hf⟩ := bnd hf
      rw [ih _ _ _ _ hf, n_bI h4, n_bI h3, n_bI h2, n_bI h1]
theorem n_X0_clear {a : Nat} {μ r : Mu} (hf : fX0_clear a μ = some r) : r.1 = μ.1 := by
  rw [fX0_clear] at hf
  have hf := grd_v hf
  obtain ⟨m1, h1, hf⟩ := bnd hf
  obtain ⟨m2, h2, hf⟩ := bnd hf
  obtain ⟨m3, h3, hf⟩ := bnd hf
  obtain ⟨m4, h4, hf⟩ := bnd hf
  obtain ⟨m5, h5, hf⟩ := bnd hf
  rw [n_X0_clear_27 _ _ _ _ _ hf, n_pL h5, n_pI h4, n_pI h3, n_pI h2, n_pI h1]
theorem n_X0_init {a : Nat} {μ r : Mu} (hf : fX0_init a μ = some r) : r.1 = μ.1 + 5 := by
  rw [fX0_init] at hf
  have hf := grd_v hf
  obtain ⟨q1, h1, hf⟩ := bnd hf
  obtain ⟨m1, k1, hf⟩ := bnd hf
  obtain ⟨q2, h2, hf⟩ := bnd hf
  obtain ⟨m2, k2, hf⟩ := bnd hf
  obtain ⟨q3, h3, hf⟩ := bnd hf
  obtain ⟨m3, k3, hf⟩ := bnd hf
  obtain ⟨q4, h4, hf⟩ := bnd hf
  obtain ⟨m4, k4, hf⟩ := bnd hf
  obtain ⟨q5, h5, hf⟩ := bnd hf
  obtain ⟨m5, k5, hf⟩ := bnd hf
  obtain ⟨q6, h6, hf⟩ := bnd hf
  cases hf
  rw [n_X0_clear h6, n_pR k5, n_nA h5, n_pR k4, n_nA h4, n_pR k3, n_nA h3, n_pR k2, n_nA h2, n_pR k1, n_nA h1]
def fX4_init_18 : Nat → Nat → Int32 → Mu → Option Mu
  | 0, _, _, _ => none
  | n + 1, v0, v2, μ => (gR 4 v0 2 μ).bind fun x1 => (aN 11 x1 μ).bind fun x2 => if x2 ≤ v2 then some μ else (gR 4 v0 2 μ).bind fun x3 => (nO 0 μ).bind fun q4 => (fX0_init q4.1 q4.2).bind fun q5 => (bR x3 v2 q4.1 q5).bind fun m6 => fX4_init_18 n v0 (v2 + 1) m6
theorem n_X4_init_18 : ∀ (n v0 : Nat) (v2 : Int32) (μ r : Mu), fX4_init_18 n v0 v2 μ = some r → μ.1 ≤ r.1 := by
  intro n
  induction n with
  | zero =>
    intro v0 v2 μ r hf
    simp [fX4_init_18] at hf
  | succ n ih =>
    intro v0 v2 μ r hf
    rw [fX4_init_18] at hf
    obtain ⟨x1, -, hf⟩ := bnd hf
    obtain ⟨x2, -, hf⟩ := bnd hf
    by_cases h : x2 ≤ v2
    · rw [if_pos h] at hf
      cases hf
      exact Nat.le_refl _
    · rw [if_neg h] at hf
      obtain ⟨x3, -, hf⟩ := bnd hf
      obtain ⟨q4, h4, hf⟩ := bnd hf
      obtain ⟨q5, h5, hf⟩ := bnd hf
      obtain ⟨m6, h6, hf⟩ := bnd hf
      have h7 := ih _ _ _ _ hf
      rw [n_bR h6, n_X0_init h5, n_nO h4] at h7
      omega
theorem tX4_init_18 {G : Gm} {p : Program} {l : Launch} {e : Env} {s : State} {m : MethodId} {args : Array Value} {below : List Frame} {meth : Method} {c : Code} {r : Mu} {n0 mc : Nat} (z0 : s.heap.size = gB G + n0) (hr : r.1 = n0 + mc) : ∀ (n v0 : Nat) (v2 : Int32) (μ : Mu) (cells slots : Nat), slots ≤ 1000 + 8 * cells → fX4_init_18 n v0 v2 μ = some r →
    Lt G p l e { frames := 3, cells := mc, slots := 1000 + 8 * mc, locals := 40 * 3 } s m args below meth c cX4_init 3 RX4 none "<init>" (MQ below (Qm G none r mc) args s mc (1000 + 8 * mc) (fA G)) cells slots 18 [(0, .ref (gB G + v0)), (2, .int v2)] [] μ := by
  intro n
  induction n with
  | zero =>
    intro v0 v2 μ cells slots hs hf
    simp [fX4_init_18] at hf
  | succ n ih =>
    intro v0 v2 μ cells slots hs hf
    rw [fX4_init_18] at hf
    refine x_iload_n 1 dX4_init_18 rfl ?_
    refine x_aload_n 0 dX4_init_19 rfl ?_
    obtain ⟨x1, h1, hf⟩ := bnd hf
    refine x_getR wF_X4_15 (by decide) (by decide) rfl h1 dX4_init_20 ?_
    obtain ⟨x2, h2, hf⟩ := bnd hf
    refine x_alenG h2 dX4_init_23 ?_
    refine x_icmp_ge 46 dX4_init_24 rfl (fun c1 => ?_) (fun c1 => ?_)
    · rw [if_pos c1] at hf
      refine x_z (fun z => ?_)
      have hμ : μ = r := Option.some.inj hf
      have hcm : cells = mc := by
        rw [hμ] at z
        omega
      subst hcm
      refine x_wide (ms := 1000 + 8 * cells) hs ?_
      exact y_vret rfl rfl rfl hf dX4_init_46
    · rw [if_neg c1] at hf
      refine x_aload_n 0 dX4_init_27 rfl ?_
      obtain ⟨x3, h3, hf⟩ := bnd hf
      refine x_getR wF_X4_15 (by decide) (by decide) rfl h3 dX4_init_28 ?_
      refine x_iload_n 1 dX4_init_31 rfl ?_
      obtain ⟨q4, h4, hf⟩ := bnd hf
      obtain ⟨q5, h5, hf⟩ := bnd hf
      obtain ⟨m6, h6, hf⟩ := bnd hf
      have hm := n_X4_init_18 _ _ _ _ _ hf
      rw [n_bR h6, n_X0_init h5, n_nO h4] at hm
      refine x_z (fun z => ?_)
      have hk : (kT 0).2.2 = 10 := rfl
      refine x_new wK_X4_13 wN_0 wA_0 (by decide) h4 ⟨by dsimp only; omega, by dsimp only; omega⟩ dX4_init_32 ?_
      refine x_dup dX4_init_35 rfl ?_
      refine x_callIv (rest := [.ref (gB G + q4.1), .int v2, .ref (gB G + x3)]) [] (tX0_init q4.1 q4.2 h5) wY_X0_init wI_X0_init rfl wL_X4_21 rfl (Nat.le_of_ble_eq_true rfl) ⟨Nat.le_of_ble_eq_true rfl, Nat.le_of_ble_eq_true rfl⟩ ⟨by dsimp only; omega, by dsimp only; omega⟩ dX4_init_36 ?_
      refine x_aast h6 dX4_init_39 ?_
      refine x_iinc 1 (v2 + 1) [1, 0] dX4_init_40 rfl rfl (by decide) (lv' := [(0, .ref (gB G + v0)), (2, .int (v2 + 1))]) rfl ?_
      refine x_goto 18 dX4_init_43 rfl ?_
      exact ih v0 (v2 + 1) m6 _ _ (by omega) hf
theorem wMx_l : Cond.methodLink RX4 7 Lib.Math.max.name ∈ TB := tb_i 136 (by decide +kernel) (by decide +kernel)
theorem wMx_s : Cond.static Lib.Math.max.name ∈ TB := tb_i 137 (by decide +kernel) (by decide +kernel)
theorem wMx_i : Cond.initialized "java/lang/Math" ∈ TB := tb_i 46 (by decide +kernel) (by decide +kernel)
theorem wMx_c : Cond.code Lib.Math.max.name Lib.Math.max.code 2 (some .int) ∈ TB := tb_i 138 (by decide +kernel) (by decide +kernel)
theorem x_mmax {G : Gm} {p : Program} {l : Launch} {e : Env} {R : Room} {s : State} {m : MethodId} {args : Array Value} {below : List Frame} {meth : Method} {c : Code} {cc : ByteArray} {nL : Nat} {own : String} {ret : Option FieldType} {nm : String} {Q : State → Prop} {cells slots pc : Nat} {lv : List (Nat × Value)} {st : List Value} {μ : Mu} {i : Nat} {x y : Int32} (hlk : Cond.methodLink own i Lib.Math.max.name ∈ TB) (hfr : 1 ≤ R.frames) (hlo : (st.map fun v => v.category).sum + 13 ≤ R.locals) (hf : cells ≤ R.cells ∧ slots ≤ R.slots) (hd : decode cc pc = .ok (.invokestatic i, 3)) (k : Lt G p l e R s m args below meth c cc nL own ret nm Q cells slots (pc + 3) lv (.int (if x < y then y else x) :: st) μ) : Lt G p l e R s m args below meth c cc nL own ret nm Q cells slots pc lv (.int y :: .int x :: st) μ := by
  intro C z H L ls h1 h2 h3
  have ht := C.2.2.2.2.1
  exact va_mmax C.1 C.2.1 (by rw [C.2.2.1]; exact h3.1.symm) C.2.2.2.1 (ht _ hlk) (ht _ wMx_s) (ht _ wMx_i) (ht _ wMx_c) hfr hlo hf.1 hf.2 hd (k C z H L ls h1 h2 h3)
def fX4_init (a : Nat) (u1 : Int32) (mc : Nat) (μ : Mu) : Option Mu := (nA 11 (if 1 < u1 then u1 else 1) μ).bind fun q1 => (pR 4 a 2 q1.1 q1.2).bind fun m2 => (fX4_init_18 FU a 0 m2).bind fun r => grd (r.1 = μ.1 + mc) (some r)
theorem tX4_init {G : Gm} {l : Launch} {r : Mu} (a : Nat) (u1 : Int32) (mc : Nat) (μ : Mu) (hf : fX4_init a u1 mc μ = some r) : Mt G l yX4_init cX4_init 3 none 3 mc (1000 + 8 * mc) [.ref (gB G + a), .int u1] μ none r := by
  rw [fX4_init] at hf
  obtain ⟨q1, h1, hf⟩ := bnd hf
  obtain ⟨m2, h2, hf⟩ := bnd hf
  obtain ⟨r2, h3, hf⟩ := bnd hf
  have hr := grd_p hf
  cases grd_v hf
  have hm := n_X4_init_18 _ _ _ _ _ h3
  rw [n_pR h2, n_nA h1] at hm
  have hl := (grd_p h1).2.2.2
  refine Mt.of (by decide) (Nat.le_of_ble_eq_true rfl) (fun p e s m args below meth c => ?_)
  refine x_z (fun z => ?_)
  refine x_aload_n 0 dX4_init_0 rfl ?_
  refine x_objInit wL_X4_1 (Nat.le_of_ble_eq_true rfl) (Nat.le_of_ble_eq_true rfl) dX4_init_1 ?_
  refine x_aload_n 0 dX4_init_4 rfl ?_
  refine x_iconst 1 dX4_init_5 (by decide) ?_
  refine x_iload_n 1 dX4_init_6 rfl ?_
  refine x_mmax wMx_l (Nat.le_of_ble_eq_true rfl) (Nat.le_of_ble_eq_true rfl) ⟨Nat.zero_le _, Nat.zero_le _⟩ dX4_init_7 ?_
  refine x_newq wK_X4_13 h1 ⟨by dsimp only; omega, by dsimp only; omega⟩ dX4_init_10 ?_
  refine x_putRF wF_X4_15 (by decide) (by decide) rfl rfl rfl rfl h2 dX4_init_13 ?_
  refine x_iconst 0 dX4_init_16 (by decide) ?_
  refine x_istore_n [1, 0] dX4_init_17 (by decide) (lv' := [(0, .ref (gB G + a)), (2, .int 0)]) rfl ?_
  exact tX4_init_18 (n0 := μ.1) (by omega) hr FU a 0 m2 _ _ (by omega) h3
