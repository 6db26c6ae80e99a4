abbrev LX0_init (G : Gm) (p : Program) (l : Launch) (e : Env) (s : State) (m : MethodId) (args : Array Value) (below : List Frame) (meth : Method) (c : Code) (r : Mu) (pc : Nat) (lv : List (Nat × Value)) (st : List Value) (μ : Mu) : Prop := Lt G p l e { frames := 1, cells := 5, slots := 33, locals := 40 * (1) } s m args below meth c cX0_init 1 RX0 none "<init>" (MQ below (Qm G none r 5) args s 5 33 (fA G)) 5 33 pc lv st μ
def fX0_init (a : Nat) (μ : Mu) : Option (Mu) := grd (isO 0 a μ) ((nA 8 5 μ).bind fun q1 =>
    (pR 0 a 5 q1.1 q1.2).bind fun m3 =>
    (nA 8 7 m3).bind fun q5 =>
    (pR 0 a 6 q5.1 q5.2).bind fun m7 =>
    (nA 8 7 m7).bind fun q9 =>
    (pR 0 a 7 q9.1 q9.2).bind fun m11 =>
    (nA 8 7 m11).bind fun q13 =>
    (pR 0 a 8 q13.1 q13.2).bind fun m15 =>
    (nA 8 7 m15).bind fun q17 =>
    (pR 0 a 9 q17.1 q17.2).bind fun m19 =>
    (fX0_clear a  m19).bind fun q21 =>
    some q21)
set_option maxRecDepth 20000 in
theorem tX0_init {G : Gm} {l : Launch} {r : Mu} (a : Nat) (μ : Mu) (hf : fX0_init a μ = some r) : Mt G l yX0_init cX0_init 1 none (1) 5 33 [.ref (gB G + a)] μ none r := by
  rw [fX0_init] at hf
  have hf := grd_v hf
  refine Mt.of (by decide) (Nat.le_of_ble_eq_true rfl) (fun p e s m args below meth c => ?_)
  refine x_aload_n 0 dX0_init_0 rfl ?_
  refine x_objInit wL_X0_3 (Nat.le_of_ble_eq_true rfl) (Nat.le_of_ble_eq_true rfl) dX0_init_1 ?_
  refine x_aload_n 0 dX0_init_4 rfl ?_
  refine x_iconst 5 dX0_init_5 (by decide) ?_
  obtain ⟨q1, h2, hf⟩ := bnd hf
  refine x_newaL8 5 (by decide) wR_int h2 ⟨Nat.le_of_ble_eq_true rfl, Nat.le_of_ble_eq_true rfl⟩ dX0_init_6 ?_
  obtain ⟨m3, h4, hf⟩ := bnd hf
  refine x_putRF wF_X0_9 (by decide) (by decide) rfl rfl rfl rfl h4 dX0_init_8 ?_
  refine x_aload_n 0 dX0_init_11 rfl ?_
  refine x_bipush 7 dX0_init_12 (by decide) ?_
  obtain ⟨q5, h6, hf⟩ := bnd hf
  refine x_newaL8 7 (by decide) wR_int h6 ⟨Nat.le_of_ble_eq_true rfl, Nat.le_of_ble_eq_true rfl⟩ dX0_init_14 ?_
  obtain ⟨m7, h8, hf⟩ := bnd hf
  refine x_putRF wF_X0_15 (by decide) (by decide) rfl rfl rfl rfl h8 dX0_init_16 ?_
  refine x_aload_n 0 dX0_init_19 rfl ?_
  refine x_bipush 7 dX0_init_20 (by decide) ?_
  obtain ⟨q9, h10, hf⟩ := bnd hf
  refine x_newaL8 7 (by decide) wR_int h10 ⟨Nat.le_of_ble_eq_true rfl, Nat.le_of_ble_eq_true rfl⟩ dX0_init_22 ?_
  obtain ⟨m11, h12, hf⟩ := bnd hf
  refine x_putRF wF_X0_18 (by decide) (by decide) rfl rfl rfl rfl h12 dX0_init_24 ?_
  refine x_aload_n 0 dX0_init_27 rfl ?_
  refine x_bipush 7 dX0_init_28 (by decide) ?_
  obtain ⟨q13, h14, hf⟩ := bnd hf
  refine x_newaL8 7 (by decide) wR_int h14 ⟨Nat.le_of_ble_eq_true rfl, Nat.le_of_ble_eq_true rfl⟩ dX0_init_30 ?_
  obtain ⟨m15, h16, hf⟩ := bnd hf
  refine x_putRF wF_X0_21 (by decide) (by decide) rfl rfl rfl rfl h16 dX0_init_32 ?_
  refine x_aload_n 0 dX0_init_35 rfl ?_
  refine x_bipush 7 dX0_init_36 (by decide) ?_
  obtain ⟨q17, h18, hf⟩ := bnd hf
  refine x_newaL8 7 (by decide) wR_int h18 ⟨Nat.le_of_ble_eq_true rfl, Nat.le_of_ble_eq_true rfl⟩ dX0_init_38 ?_
  obtain ⟨m19, h20, hf⟩ := bnd hf
  refine x_putRF wF_X0_24 (by decide) (by decide) rfl rfl rfl rfl h20 dX0_init_40 ?_
  refine x_aload_n 0 dX0_init_43 rfl ?_
  obtain ⟨q21, h22, hf⟩ := bnd hf
  refine x_callVv (rest := []) [] (tX0_clear a  m19 h22) wY_X0_clear wI_X0_clear wS_X0_clear wL_X0_27 (grd_p h22) (by decide) rfl rfl (Nat.le_of_ble_eq_true rfl) ⟨Nat.le_of_ble_eq_true rfl, Nat.le_of_ble_eq_true rfl⟩ ⟨Nat.le_refl _, Nat.le_refl _⟩ dX0_init_44 ?_
  exact y_vret rfl rfl rfl hf dX0_init_47
abbrev LX1_init (G : Gm) (p : Program) (l : Launch) (e : Env) (s : State) (m : MethodId) (args : Array Value) (below : List Frame) (meth : Method) (c : Code) (r : Mu) (pc : Nat) (lv : List (Nat × Value)) (st : List Value) (μ : Mu) : Prop := Lt G p l e { frames := 1, cells := 1, slots := 9, locals := 40 * (1) } s m args below meth c cX1_init 1 RX1 none "<init>" (MQ below (Qm G none r 1) args s 1 9 (fA G)) 1 9 pc lv st μ
def fX1_init (a : Nat) (μ : Mu) : Option (Mu) := grd (isO 1 a μ) ((nA 8 9 μ).bind fun q1 =>
    (pR 1 a 2 q1.1 q1.2).bind fun m3 =>
    some m3)
set_option maxRecDepth 20000 in
theorem tX1_init {G : Gm} {l : Launch} {r : Mu} (a : Nat) (μ : Mu) (hf : fX1_init a μ = some r) : Mt G l yX1_init cX1_init 1 none (1) 1 9 [.ref (gB G + a)] μ none r := by
  rw [fX1_init] at hf
  have hf := grd_v hf
  refine Mt.of (by decide) (Nat.le_of_ble_eq_true rfl) (fun p e s m args below meth c => ?_)
  refine x_aload_n 0 dX1_init_0 rfl ?_
  refine x_objInit wL_X1_3 (Nat.le_of_ble_eq_true rfl) (Nat.le_of_ble_eq_true rfl) dX1_init_1 ?_
  refine x_aload_n 0 dX1_init_4 rfl ?_
  refine x_bipush 9 dX1_init_5 (by decide) ?_
  obtain ⟨q1, h2, hf⟩ := bnd hf
  refine x_newaL8 9 (by decide) wR_int h2 ⟨Nat.le_of_ble_eq_true rfl, Nat.le_of_ble_eq_true rfl⟩ dX1_init_7 ?_
  obtain ⟨m3, h4, hf⟩ := bnd hf
  refine x_putRF wF_X1_9 (by decide) (by decide) rfl rfl rfl rfl h4 dX1_init_9 ?_
  exact y_vret rfl rfl rfl hf dX1_init_12
abbrev LX2_init (G : Gm) (p : Program) (l : Launch) (e : Env) (s : State) (m : MethodId) (args : Array Value) (below : List Frame) (meth : Method) (c : Code) (r : Mu) (pc : Nat) (lv : List (Nat × Value)) (st : List Value) (μ : Mu) : Prop := Lt G p l e { frames := 1, cells := 6, slots := 40, locals := 40 * (1) } s m args below meth c cX2_init 1 RX2 none "<init>" (MQ below (Qm G none r 6) args s 6 40 (fA G)) 6 40 pc lv st μ
def fX2_init (a : Nat) (μ : Mu) : Option (Mu) := grd (isO 2 a μ) ((nA 8 5 μ).bind fun q1 =>
    (pR 2 a 1 q1.1 q1.2).bind fun m3 =>
    (nA 10 5 m3).bind fun q5 =>
    (pR 2 a 2 q5.1 q5.2).bind fun m7 =>
    (nA 8 8 m7).bind fun q9 =>
    (pR 2 a 3 q9.1 q9.2).bind fun m11 =>
    (nA 8 8 m11).bind fun q13 =>
    (pR 2 a 4 q13.1 q13.2).bind fun m15 =>
    (nA 8 7 m15).bind fun q17 =>
    (pR 2 a 5 q17.1 q17.2).bind fun m19 =>
    (nA 8 7 m19).bind fun q21 =>
    (pR 2 a 6 q21.1 q21.2).bind fun m23 =>
    some m23)
set_option maxRecDepth 20000 in
theorem tX2_init {G : Gm} {l : Launch} {r : Mu} (a : Nat) (μ : Mu) (hf : fX2_init a μ = some r) : Mt G l yX2_init cX2_init 1 none (1) 6 40 [.ref (gB G + a)] μ none r := by
  rw [fX2_init] at hf
  have hf := grd_v hf
  refine Mt.of (by decide) (Nat.le_of_ble_eq_true rfl) (fun p e s m args below meth c => ?_)
  refine x_aload_n 0 dX2_init_0 rfl ?_
  refine x_objInit wL_X2_3 (Nat.le_of_ble_eq_true rfl) (Nat.le_of_ble_eq_true rfl) dX2_init_1 ?_
  refine x_aload_n 0 dX2_init_4 rfl ?_
  refine x_iconst 5 dX2_init_5 (by decide) ?_
  obtain ⟨q1, h2, hf⟩ := bnd hf
  refine x_newaL8 5 (by decide) wR_int h2 ⟨Nat.le_of_ble_eq_true rfl, Nat.le_of_ble_eq_true rfl⟩ dX2_init_6 ?_
  obtain ⟨m3, h4, hf⟩ := bnd hf
  refine x_putRF wF_X2_9 (by decide) (by decide) rfl rfl rfl rfl h4 dX2_init_8 ?_
  refine x_aload_n 0 dX2_init_11 rfl ?_
  refine x_iconst 5 dX2_init_12 (by decide) ?_
  obtain ⟨q5, h6, hf⟩ := bnd hf
  refine x_newaL10 5 (by decide) wR_boolean h6 ⟨Nat.le_of_ble_eq_true rfl, Nat.le_of_ble_eq_true rfl⟩ dX2_init_13 ?_
  obtain ⟨m7, h8, hf⟩ := bnd hf
  refine x_putRF wF_X2_15 (by decide) (by decide) rfl rfl rfl rfl h8 dX2_init_15 ?_
  refine x_aload_n 0 dX2_init_18 rfl ?_
  refine x_bipush 8 dX2_init_19 (by decide) ?_
  obtain ⟨q9, h10, hf⟩ := bnd hf
  refine x_newaL8 8 (by decide) wR_int h10 ⟨Nat.le_of_ble_eq_true rfl, Nat.le_of_ble_eq_true rfl⟩ dX2_init_21 ?_
  obtain ⟨m11, h12, hf⟩ := bnd hf
  refine x_putRF wF_X2_19 (by decide) (by decide) rfl rfl rfl rfl h12 dX2_init_23 ?_
  refine x_aload_n 0 dX2_init_26 rfl ?_
  refine x_bipush 8 dX2_init_27 (by decide) ?_
  obtain ⟨q13, h14, hf⟩ := bnd hf
  refine x_newaL8 8 (by decide) wR_int h14 ⟨Nat.le_of_ble_eq_true rfl, Nat.le_of_ble_eq_true rfl⟩ dX2_init_29 ?_
  obtain ⟨m15, h16, hf⟩ := bnd hf
  refine x_putRF wF_X2_22 (by decide) (by decide) rfl rfl rfl rfl h16 dX2_init_31 ?_
  refine x_aload_n 0 dX2_init_34 rfl ?_
  refine x_bipush 7 dX2_init_35 (by decide) ?_
  obtain ⟨q17, h18, hf⟩ := bnd hf
  refine x_newaL8 7 (by decide) wR_int h18 ⟨Nat.le_of_ble_eq_true rfl, Nat.le_of_ble_eq_true rfl⟩ dX2_init_37 ?_
  obtain ⟨m19, h20, hf⟩ := bnd hf
  refine x_putRF wF_X2_25 (by decide) (by decide) rfl rfl rfl rfl h20 dX2_init_39 ?_
  refine x_aload_n 0 dX2_init_42 rfl ?_
  refine x_bipush 7 dX2_init_43 (by decide) ?_
  obtain ⟨q21, h22, hf⟩ := bnd hf
  refine x_newaL8 7 (by decide) wR_int h22 ⟨Nat.le_of_ble_eq_true rfl, Nat.le_of_ble_eq_true rfl⟩ dX2_init_45 ?_
  obtain ⟨m23, h24, hf⟩ := bnd hf
  refine x_putRF wF_X2_28 (by decide) (by decide) rfl rfl rfl rfl h24 dX2_init_47 ?_
  exact y_vret rfl rfl rfl hf dX2_init_50
abbrev LX3_init (G : Gm) (p : Program) (l : Launch) (e : Env) (s : State) (m : MethodId) (args : Array Value) (below : List Frame) (meth : Method) (c : Code) (r : Mu) (pc : Nat) (lv : List (Nat × Value)) (st : List Value) (μ : Mu) : Prop := Lt G p l e { frames := 1, cells := 2, slots := 203, locals := 40 * (1) } s m args below meth c cX3_init 1 RX3 none "<init>" (MQ below (Qm G none r 2) args s 2 203 (fA G)) 2 203 pc lv st μ
def fX3_init (a : Nat) (μ : Mu) : Option (Mu) := grd (isO 3 a μ) ((nA 9 200 μ).bind fun q1 =>
    (pR 3 a 1 q1.1 q1.2).bind fun m3 =>
    (nA 8 3 m3).bind fun q5 =>
    (pR 3 a 2 q5.1 q5.2).bind fun m7 =>
    some m7)
set_option maxRecDepth 20000 in
theorem tX3_init {G : Gm} {l : Launch} {r : Mu} (a : Nat) (μ : Mu) (hf : fX3_init a μ = some r) : Mt G l yX3_init cX3_init 1 none (1) 2 203 [.ref (gB G + a)] μ none r := by
  rw [fX3_init] at hf
  have hf := grd_v hf
  refine Mt.of (by decide) (Nat.le_of_ble_eq_true rfl) (fun p e s m args below meth c => ?_)
  refine x_aload_n 0 dX3_init_0 rfl ?_
  refine x_objInit wL_X3_3 (Nat.le_of_ble_eq_true rfl) (Nat.le_of_ble_eq_true rfl) dX3_init_1 ?_
  refine x_aload_n 0 dX3_init_4 rfl ?_
  refine x_sipush 200 dX3_init_5 (by decide) ?_
  obtain ⟨q1, h2, hf⟩ := bnd hf
  refine x_newaL9 200 (by decide) wR_char h2 ⟨Nat.le_of_ble_eq_true rfl, Nat.le_of_ble_eq_true rfl⟩ dX3_init_8 ?_
  obtain ⟨m3, h4, hf⟩ := bnd hf
  refine x_putRF wF_X3_11 (by decide) (by decide) rfl rfl rfl rfl h4 dX3_init_10 ?_
  refine x_aload_n 0 dX3_init_13 rfl ?_
  refine x_iconst 3 dX3_init_14 (by decide) ?_
  obtain ⟨q5, h6, hf⟩ := bnd hf
  refine x_newaL8 3 (by decide) wR_int h6 ⟨Nat.le_of_ble_eq_true rfl, Nat.le_of_ble_eq_true rfl⟩ dX3_init_15 ?_
  obtain ⟨m7, h8, hf⟩ := bnd hf
  refine x_putRF wF_X3_15 (by decide) (by decide) rfl rfl rfl rfl h8 dX3_init_17 ?_
  exact y_vret rfl rfl rfl hf dX3_init_20
abbrev LX5_init (G : Gm) (p : Program) (l : Launch) (e : Env) (s : State) (m : MethodId) (args : Array Value) (below : List Frame) (meth : Method) (c : Code) (r : Mu) (pc : Nat) (lv : List (Nat × Value)) (st : List Value) (μ : Mu) : Prop := Lt G p l e { frames := 1, cells := 3, slots := 18, locals := 40 * (1) } s m args below meth c cX5_init 1 RX5 none "<init>" (MQ below (Qm G none r 3) args s 3 18 (fA G)) 3 18 pc lv st μ
def fX5_init (a : Nat) (μ : Mu) : Option (Mu) := grd (isO 5 a μ) ((nA 8 6 μ).bind fun q1 =>
    (pR 5 a 1 q1.1 q1.2).bind fun m3 =>
    (nA 8 6 m3).bind fun q5 =>
    (pR 5 a 2 q5.1 q5.2).bind fun m7 =>
    (nA 10 6 m7).bind fun q9 =>
    (pR 5 a 3 q9.1 q9.2).bind fun m11 =>
    some m11)
set_option maxRecDepth 20000 in
theorem tX5_init {G : Gm} {l : Launch} {r : Mu} (a : Nat) (μ : Mu) (hf : fX5_init a μ = some r) : Mt G l yX5_init cX5_init 1 none (1) 3 18 [.ref (gB G + a)] μ none r := by
  rw [fX5_init] at hf
  have hf := grd_v hf
  refine Mt.of (by decide) (Nat.le_of_ble_eq_true rfl) (fun p e s m args below meth c => ?_)
  refine x_aload_n 0 dX5_init_0 rfl ?_
  refine x_objInit wL_X5_3 (Nat.le_of_ble_eq_true rfl) (Nat.le_of_ble_eq_true rfl) dX5_init_1 ?_
  refine x_aload_n 0 dX5_init_4 rfl ?_
  refine x_bipush 6 dX5_init_5 (by decide) ?_
  obtain ⟨q1, h2, hf⟩ := bnd hf
  refine x_newaL8 6 (by decide) wR_int h2 ⟨Nat.le_of_ble_eq_true rfl, Nat.le_of_ble_eq_true rfl⟩ dX5_init_7 ?_
  obtain ⟨m3, h4, hf⟩ := bnd hf
  refine x_putRF wF_X5_11 (by decide) (by decide) rfl rfl rfl rfl h4 dX5_init_9 ?_
  refine x_aload_n 0 dX5_init_12 rfl ?_
  refine x_bipush 6 dX5_init_13 (by decide) ?_
  obtain ⟨q5, h6, hf⟩ := bnd hf
  refine x_newaL8 6 (by decide) wR_int h6 ⟨Nat.le_of_ble_eq_true rfl, Nat.le_of_ble_eq_true rfl⟩ dX5_init_15 ?_
  obtain ⟨m7, h8, hf⟩ := bnd hf
  refine x_putRF wF_X5_15 (by decide) (by decide) rfl rfl rfl rfl h8 dX5_init_17 ?_
  refine x_aload_n 0 dX5_init_20 rfl ?_
  refine x_bipush 6 dX5_init_21 (by decide) ?_
  obtain ⟨q9, h10, hf⟩ := bnd hf
  refine x_newaL10 6 (by decide) wR_boolean h10 ⟨Nat.le_of_ble_eq_true rfl, Nat.le_of_ble_eq_true rfl⟩ dX5_init_23 ?_
  obtain ⟨m11, h12, hf⟩ := bnd hf
  refine x_putRF wF_X5_18 (by decide) (by decide) rfl rfl rfl rfl h12 dX5_init_25 ?_
  exact y_vret rfl rfl rfl hf dX5_init_28
abbrev LX7_init (G : Gm) (p : Program) (l : Launch) (e : Env) (s : State) (m : MethodId) (args : Array Value) (below : List Frame) (meth : Method) (c : Code) (r : Mu) (pc : Nat) (lv : List (Nat × Value)) (st : List Value) (μ : Mu) : Prop := Lt G p l e { frames := 3, cells := 13, slots := 633, locals := 40 * (3) } s m args below meth c cX7_init 2 RX7 none "<init>" (MQ below (Qm G none r 13) args s 13 633 (fA G)) 13 633 pc lv st μ
def fX7_init_204 : Nat → Nat → Int32 → Mu → Option (Mu)
  | 0, _, _, _ => none
  | n + 1, v0, v1, μ => (if 56 ≤ v1 then
    some μ
    else
    (gR 7 v0 2 μ).bind fun x90 =>
    (gR 7 v0 3 μ).bind fun x92 =>
    (aI 8 x92 v1 μ).bind fun x94 =>
    (bI 8 x90 v1 x94 μ).bind fun m96 =>
    (fX7_init_204 n) v0 (v1 + 1) m96)
set_option maxRecDepth 20000 in
theorem tX7_init_204 {G : Gm} {p : Program} {l : Launch} {e : Env} {s : State} {m : MethodId} {args : Array Value} {below : List Frame} {meth : Method} {c : Code} {r : Mu} : ∀ (n : Nat) (v0 : Nat) (v1 : Int32) (μ : Mu), fX7_init_204 n v0 v1 μ = some r → LX7_init G p l e s m args below meth c r 204 [(0, .ref (gB G + v0)), (1, .int v1)] [] μ := by
  intro n
  induction n with
  | zero =>
    intro v0 v1 μ hf
    simp [fX7_init_204] at hf
  | succ n ih =>
    intro v0 v1 μ hf
    rw [fX7_init_204] at hf
    refine x_iload_n 1 dX7_init_204 rfl ?_
    refine x_bipush 56 dX7_init_205 (by decide) ?_
    refine x_icmp_ge 228 dX7_init_207 rfl (fun c89 => ?_) (fun c89 => ?_)
    · rw [if_pos c89] at hf
      exact y_vret rfl rfl rfl hf dX7_init_228
    · rw [if_neg c89] at hf
      refine x_aload_n 0 dX7_init_210 rfl ?_
      obtain ⟨x90, h91, hf⟩ := bnd hf
      refine x_getR wF_X7_13 (by decide) (by decide) rfl h91 dX7_init_211 ?_
      refine x_iload_n 1 dX7_init_214 rfl ?_
      refine x_aload_n 0 dX7_init_215 rfl ?_
      obtain ⟨x92, h93, hf⟩ := bnd hf
      refine x_getR wF_X7_16 (by decide) (by decide) rfl h93 dX7_init_216 ?_
      refine x_iload_n 1 dX7_init_219 rfl ?_
      obtain ⟨x94, h95, hf⟩ := bnd hf
      refine x_iald h95 dX7_init_220 ?_
      obtain ⟨m96, h97, hf⟩ := bnd hf
      refine x_iast h97 dX7_init_221 ?_
      refine x_iinc 1 (v1 + 1) [1, 0] dX7_init_222 rfl rfl (by decide) (lv' := [(0, .ref (gB G + v0)), (1, .int (v1 + 1))]) rfl ?_
      refine x_goto 204 dX7_init_225 rfl ?_
      exact ih v0 (v1 + 1) m96 hf
def fX7_init (a : Nat) (μ : Mu) : Option (Mu) := grd (isO 7 a μ) ((nA 8 200 μ).bind fun q1 =>
    (pR 7 a 0 q1.1 q1.2).bind fun m3 =>
    (nA 8 56 m3).bind fun q5 =>
    (pR 7 a 2 q5.1 q5.2).bind fun m7 =>
    (nA 8 56 m7).bind fun q9 =>
    (pR 7 a 3 q9.1 q9.2).bind fun m11 =>
    (nA 8 21 m11).bind fun q13 =>
    (pR 7 a 4 q13.1 q13.2).bind fun m15 =>
    (nA 8 168 m15).bind fun q17 =>
    (pR 7 a 5 q17.1 q17.2).bind fun m19 =>
    (nA 8 42 m19).bind fun q21 =>
    (pR 7 a 7 q21.1 q21.2).bind fun m23 =>
    (nA 8 18 m23).bind fun q25 =>
    (pR 7 a 9 q25.1 q25.2).bind fun m27 =>
    (nA 8 21 m27).bind fun q29 =>
    (pR 7 a 12 q29.1 q29.2).bind fun m31 =>
    (nA 8 7 m31).bind fun q33 =>
    (pR 7 a 13 q33.1 q33.2).bind fun m35 =>
    (nA 8 7 m35).bind fun q37 =>
    (pR 7 a 14 q37.1 q37.2).bind fun m39 =>
    (nA 8 8 m39).bind fun q41 =>
    (pR 7 a 15 q41.1 q41.2).bind fun m43 =>
    (nA 8 8 m43).bind fun q45 =>
    (pR 7 a 16 q45.1 q45.2).bind fun m47 =>
    (nA 8 21 m47).bind fun q49 =>
    (pR 7 a 17 q49.1 q49.2).bind fun m51 =>
    (fX7_holds a  m51).bind fun q53 =>
    (gR 7 a 3 q53).bind fun x55 =>
    (bI 8 x55 0 3 q53).bind fun m57 =>
    (gR 7 a 4 m57).bind fun x59 =>
    (bI 8 x59 2 4 m57).bind fun m61 =>
    (gR 7 a 4 m61).bind fun x63 =>
    (bI 8 x63 3 3 m61).bind fun m65 =>
    (gR 7 a 4 m65).bind fun x67 =>
    (bI 8 x67 4 5 m65).bind fun m69 =>
    (fX7_newHour a 0 3 0 m69).bind fun q71 =>
    (fX7_newHour a 1 7 0 q71).bind fun q73 =>
    (fX7_newHour a 2 2 1 q73).bind fun q75 =>
    (fX7_newHour a 2 4 1 q75).bind fun q77 =>
    (fX7_newHour a 3 9 2 q77).bind fun q79 =>
    (fX7_newHour a 0 5 (-1) q79).bind fun q81 =>
    (fX7_newHour a 1 6 (-1) q81).bind fun q83 =>
    (gR 7 a 3 q83).bind fun x85 =>
    (bI 8 x85 18 1 q83).bind fun m87 =>
    fX7_init_204  FU a 0 m87)
set_option maxRecDepth 20000 in
theorem tX7_init {G : Gm} {l : Launch} {r : Mu} (a : Nat) (μ : Mu) (hf : fX7_init a μ = some r) : Mt G l yX7_init cX7_init 2 none (3) 13 633 [.ref (gB G + a)] μ none r := by
  rw [fX7_init] at hf
  have hf := grd_v hf
  refine Mt.of (by decide) (Nat.le_of_ble_eq_true rfl) (fun p e s m args below meth c => ?_)
  refine x_aload_n 0 dX7_init_0 rfl ?_
  refine x_objInit wL_X7_1 (Nat.le_of_ble_eq_true rfl) (Nat.le_of_ble_eq_true rfl) dX7_init_1 ?_
  refine x_aload_n 0 dX7_init_4 rfl ?_
  refine x_sipush 200 dX7_init_5 (by decide) ?_
  obtain ⟨q1, h2, hf⟩ := bnd hf
  refine x_newaL8 200 (by decide) wR_int h2 ⟨Nat.le_of_ble_eq_true rfl, Nat.le_of_ble_eq_true rfl⟩ dX7_init_8 ?_
  obtain ⟨m3, h4, hf⟩ := bnd hf
  refine x_putRF wF_X7_7 (by decide) (by decide) rfl rfl rfl rfl h4 dX7_init_10 ?_
  refine x_aload_n 0 dX7_init_13 rfl ?_
  refine x_bipush 56 dX7_init_14 (by decide) ?_
  obtain ⟨q5, h6, hf⟩ := bnd hf
  refine x_newaL8 56 (by decide) wR_int h6 ⟨Nat.le_of_ble_eq_true rfl, Nat.le_of_ble_eq_true rfl⟩ dX7_init_16 ?_
  obtain ⟨m7, h8, hf⟩ := bnd hf
  refine x_putRF wF_X7_13 (by decide) (by decide) rfl rfl rfl rfl h8 dX7_init_18 ?_
  refine x_aload_n 0 dX7_init_21 rfl ?_
  refine x_bipush 56 dX7_init_22 (by decide) ?_
  obtain ⟨q9, h10, hf⟩ := bnd hf
  refine x_newaL8 56 (by decide) wR_int h10 ⟨Nat.le_of_ble_eq_true rfl, Nat.le_of_ble_eq_true rfl⟩ dX7_init_24 ?_
  obtain ⟨m11, h12, hf⟩ := bnd hf
  refine x_putRF wF_X7_16 (by decide) (by decide) rfl rfl rfl rfl h12 dX7_init_26 ?_
  refine x_aload_n 0 dX7_init_29 rfl ?_
  refine x_bipush 21 dX7_init_30 (by decide) ?_
  obtain ⟨q13, h14, hf⟩ := bnd hf
  refine x_newaL8 21 (by decide) wR_int h14 ⟨Nat.le_of_ble_eq_true rfl, Nat.le_of_ble_eq_true rfl⟩ dX7_init_32 ?_
  obtain ⟨m15, h16, hf⟩ := bnd hf
  refine x_putRF wF_X7_19 (by decide) (by decide) rfl rfl rfl rfl h16 dX7_init_34 ?_
  refine x_aload_n 0 dX7_init_37 rfl ?_
  refine x_sipush 168 dX7_init_38 (by decide) ?_
  obtain ⟨q17, h18, hf⟩ := bnd hf
  refine x_newaL8 168 (by decide) wR_int h18 ⟨Nat.le_of_ble_eq_true rfl, Nat.le_of_ble_eq_true rfl⟩ dX7_init_41 ?_
  obtain ⟨m19, h20, hf⟩ := bnd hf
  refine x_putRF wF_X7_22 (by decide) (by decide) rfl rfl rfl rfl h20 dX7_init_43 ?_
  refine x_aload_n 0 dX7_init_46 rfl ?_
  refine x_bipush 42 dX7_init_47 (by decide) ?_
  obtain ⟨q21, h22, hf⟩ := bnd hf
  refine x_newaL8 42 (by decide) wR_int h22 ⟨Nat.le_of_ble_eq_true rfl, Nat.le_of_ble_eq_true rfl⟩ dX7_init_49 ?_
  obtain ⟨m23, h24, hf⟩ := bnd hf
  refine x_putRF wF_X7_25 (by decide) (by decide) rfl rfl rfl rfl h24 dX7_init_51 ?_
  refine x_aload_n 0 dX7_init_54 rfl ?_
  refine x_bipush 18 dX7_init_55 (by decide) ?_
  obtain ⟨q25, h26, hf⟩ := bnd hf
  refine x_newaL8 18 (by decide) wR_int h26 ⟨Nat.le_of_ble_eq_true rfl, Nat.le_of_ble_eq_true rfl⟩ dX7_init_57 ?_
  obtain ⟨m27, h28, hf⟩ := bnd hf
  refine x_putRF wF_X7_28 (by decide) (by decide) rfl rfl rfl rfl h28 dX7_init_59 ?_
  refine x_aload_n 0 dX7_init_62 rfl ?_
  refine x_bipush 21 dX7_init_63 (by decide) ?_
  obtain ⟨q29, h30, hf⟩ := bnd hf
  refine x_newaL8 21 (by decide) wR_int h30 ⟨Nat.le_of_ble_eq_true rfl, Nat.le_of_ble_eq_true rfl⟩ dX7_init_65 ?_
  obtain ⟨m31, h32, hf⟩ := bnd hf
  refine x_putRF wF_X7_31 (by decide) (by decide) rfl rfl rfl rfl h32 dX7_init_67 ?_
  refine x_aload_n 0 dX7_init_70 rfl ?_
  refine x_bipush 7 dX7_init_71 (by decide) ?_
  obtain ⟨q33, h34, hf⟩ := bnd hf
  refine x_newaL8 7 (by decide) wR_int h34 ⟨Nat.le_of_ble_eq_true rfl, Nat.le_of_ble_eq_true rfl⟩ dX7_init_73 ?_
  obtain ⟨m35, h36, hf⟩ := bnd hf
  refine x_putRF wF_X7_34 (by decide) (by decide) rfl rfl rfl rfl h36 dX7_init_75 ?_
  refine x_aload_n 0 dX7_init_78 rfl ?_
  refine x_bipush 7 dX7_init_79 (by decide) ?_
  obtain ⟨q37, h38, hf⟩ := bnd hf
  refine x_newaL8 7 (by decide) wR_int h38 ⟨Nat.le_of_ble_eq_true rfl, Nat.le_of_ble_eq_true rfl⟩ dX7_init_81 ?_
  obtain ⟨m39, h40, hf⟩ := bnd hf
  refine x_putRF wF_X7_37 (by decide) (by decide) rfl rfl rfl rfl h40 dX7_init_83 ?_
  refine x_aload_n 0 dX7_init_86 rfl ?_
  refine x_bipush 8 dX7_init_87 (by decide) ?_
  obtain ⟨q41, h42, hf⟩ := bnd hf
  refine x_newaL8 8 (by decide) wR_int h42 ⟨Nat.le_of_ble_eq_true rfl, Nat.le_of_ble_eq_true rfl⟩ dX7_init_89 ?_
  obtain ⟨m43, h44, hf⟩ := bnd hf
  refine x_putRF wF_X7_40 (by decide) (by decide) rfl rfl rfl rfl h44 dX7_init_91 ?_
  refine x_aload_n 0 dX7_init_94 rfl ?_
  refine x_bipush 8 dX7_init_95 (by decide) ?_
  obtain ⟨q45, h46, hf⟩ := bnd hf
  refine x_newaL8 8 (by decide) wR_int h46 ⟨Nat.le_of_ble_eq_true rfl, Nat.le_of_ble_eq_true rfl⟩ dX7_init_97 ?_
  obtain ⟨m47, h48, hf⟩ := bnd hf
  refine x_putRF wF_X7_43 (by decide) (by decide) rfl rfl rfl rfl h48 dX7_init_99 ?_
  refine x_aload_n 0 dX7_init_102 rfl ?_
  refine x_bipush 21 dX7_init_103 (by decide) ?_
  obtain ⟨q49, h50, hf⟩ := bnd hf
  refine x_newaL8 21 (by decide) wR_int h50 ⟨Nat.le_of_ble_eq_true rfl, Nat.le_of_ble_eq_true rfl⟩ dX7_init_105 ?_
  obtain ⟨m51, h52, hf⟩ := bnd hf
  refine x_putRF wF_X7_46 (by decide) (by decide) rfl rfl rfl rfl h52 dX7_init_107 ?_
  refine x_aload_n 0 dX7_init_110 rfl ?_
  obtain ⟨q53, h54, hf⟩ := bnd hf
  refine x_callVv (rest := []) [] (tX7_holds a  m51 h54) wY_X7_holds wI_X7_holds wS_X7_holds wL_X7_49 (grd_p h54) (by decide) rfl rfl (Nat.le_of_ble_eq_true rfl) ⟨Nat.le_of_ble_eq_true rfl, Nat.le_of_ble_eq_true rfl⟩ ⟨Nat.le_refl _, Nat.le_refl _⟩ dX7_init_111 ?_
  refine x_aload_n 0 dX7_init_114 rfl ?_
  obtain ⟨x55, h56, hf⟩ := bnd hf
  refine x_getR wF_X7_16 (by decide) (by decide) rfl h56 dX7_init_115 ?_
  refine x_iconst 0 dX7_init_118 (by decide) ?_
  refine x_iconst 3 dX7_init_119 (by decide) ?_
  obtain ⟨m57, h58, hf⟩ := bnd hf
  refine x_iast h58 dX7_init_120 ?_
  refine x_aload_n 0 dX7_init_121 rfl ?_
  obtain ⟨x59, h60, hf⟩ := bnd hf
  refine x_getR wF_X7_19 (by decide) (by decide) rfl h60 dX7_init_122 ?_
  refine x_iconst 2 dX7_init_125 (by decide) ?_
  refine x_iconst 4 dX7_init_126 (by decide) ?_
  obtain ⟨m61, h62, hf⟩ := bnd hf
  refine x_iast h62 dX7_init_127 ?_
  refine x_aload_n 0 dX7_init_128 rfl ?_
  obtain ⟨x63, h64, hf⟩ := bnd hf
  refine x_getR wF_X7_19 (by decide) (by decide) rfl h64 dX7_init_129 ?_
  refine x_iconst 3 dX7_init_132 (by decide) ?_
  refine x_iconst 3 dX7_init_133 (by decide) ?_
  obtain ⟨m65, h66, hf⟩ := bnd hf
  refine x_iast h66 dX7_init_134 ?_
  refine x_aload_n 0 dX7_init_135 rfl ?_
  obtain ⟨x67, h68, hf⟩ := bnd hf
  refine x_getR wF_X7_19 (by decide) (by decide) rfl h68 dX7_init_136 ?_
  refine x_iconst 4 dX7_init_139 (by decide) ?_
  refine x_iconst 5 dX7_init_140 (by decide) ?_
  obtain ⟨m69, h70, hf⟩ := bnd hf
  refine x_iast h70 dX7_init_141 ?_
  refine x_aload_n 0 dX7_init_142 rfl ?_
  refine x_iconst 0 dX7_init_143 (by decide) ?_
  refine x_iconst 3 dX7_init_144 (by decide) ?_
  refine x_iconst 0 dX7_init_145 (by decide) ?_
  obtain ⟨q71, h72, hf⟩ := bnd hf
  refine x_callVv (rest := []) [.int 0, .int 3, .int 0] (tX7_newHour a 0 3 0 m69 h72) wY_X7_newHour wI_X7_newHour wS_X7_newHour wL_X7_52 (grd_p h72) (by decide) rfl rfl (Nat.le_of_ble_eq_true rfl) ⟨Nat.le_of_ble_eq_true rfl, Nat.le_of_ble_eq_true rfl⟩ ⟨Nat.le_refl _, Nat.le_refl _⟩ dX7_init_146 ?_
  refine x_aload_n 0 dX7_init_149 rfl ?_
  refine x_iconst 1 dX7_init_150 (by decide) ?_
  refine x_bipush 7 dX7_init_151 (by decide) ?_
  refine x_iconst 0 dX7_init_153 (by decide) ?_
  obtain ⟨q73, h74, hf⟩ := bnd hf
  refine x_callVv (rest := []) [.int 1, .int 7, .int 0] (tX7_newHour a 1 7 0 q71 h74) wY_X7_newHour wI_X7_newHour wS_X7_newHour wL_X7_52 (grd_p h74) (by decide) rfl rfl (Nat.le_of_ble_eq_true rfl) ⟨Nat.le_of_ble_eq_true rfl, Nat.le_of_ble_eq_true rfl⟩ ⟨Nat.le_refl _, Nat.le_refl _⟩ dX7_init_154 ?_
  refine x_aload_n 0 dX7_init_157 rfl ?_
  refine x_iconst 2 dX7_init_158 (by decide) ?_
  refine x_iconst 2 dX7_init_159 (by decide) ?_
  refine x_iconst 1 dX7_init_160 (by decide) ?_
  obtain ⟨q75, h76, hf⟩ := bnd hf
  refine x_callVv (rest := []) [.int 2, .int 2, .int 1] (tX7_newHour a 2 2 1 q73 h76) wY_X7_newHour wI_X7_newHour wS_X7_newHour wL_X7_52 (grd_p h76) (by decide) rfl rfl (Nat.le_of_ble_eq_true rfl) ⟨Nat.le_of_ble_eq_true rfl, Nat.le_of_ble_eq_true rfl⟩ ⟨Nat.le_refl _, Nat.le_refl _⟩ dX7_init_161 ?_
  refine x_aload_n 0 dX7_init_164 rfl ?_
  refine x_iconst 2 dX7_init_165 (by decide) ?_
  refine x_iconst 4 dX7_init_166 (by decide) ?_
  refine x_iconst 1 dX7_init_167 (by decide) ?_
  obtain ⟨q77, h78, hf⟩ := bnd hf
  refine x_callVv (rest := []) [.int 2, .int 4, .int 1] (tX7_newHour a 2 4 1 q75 h78) wY_X7_newHour wI_X7_newHour wS_X7_newHour wL_X7_52 (grd_p h78) (by decide) rfl rfl (Nat.le_of_ble_eq_true rfl) ⟨Nat.le_of_ble_eq_true rfl, Nat.le_of_ble_eq_true rfl⟩ ⟨Nat.le_refl _, Nat.le_refl _⟩ dX7_init_168 ?_
  refine x_aload_n 0 dX7_init_171 rfl ?_
  refine x_iconst 3 dX7_init_172 (by decide) ?_
  refine x_bipush 9 dX7_init_173 (by decide) ?_
  refine x_iconst 2 dX7_init_175 (by decide) ?_
  obtain ⟨q79, h80, hf⟩ := bnd hf
  refine x_callVv (rest := []) [.int 3, .int 9, .int 2] (tX7_newHour a 3 9 2 q77 h80) wY_X7_newHour wI_X7_newHour wS_X7_newHour wL_X7_52 (grd_p h80) (by decide) rfl rfl (Nat.le_of_ble_eq_true rfl) ⟨Nat.le_of_ble_eq_true rfl, Nat.le_of_ble_eq_true rfl⟩ ⟨Nat.le_refl _, Nat.le_refl _⟩ dX7_init_176 ?_
  refine x_aload_n 0 dX7_init_179 rfl ?_
  refine x_iconst 0 dX7_init_180 (by decide) ?_
  refine x_iconst 5 dX7_init_181 (by decide) ?_
  refine x_iconst (-1) dX7_init_182 (by decide) ?_
  obtain ⟨q81, h82, hf⟩ := bnd hf
  refine x_callVv (rest := []) [.int 0, .int 5, .int (-1)] (tX7_newHour a 0 5 (-1) q79 h82) wY_X7_newHour wI_X7_newHour wS_X7_newHour wL_X7_52 (grd_p h82) (by decide) rfl rfl (Nat.le_of_ble_eq_true rfl) ⟨Nat.le_of_ble_eq_true rfl, Nat.le_of_ble_eq_true rfl⟩ ⟨Nat.le_refl _, Nat.le_refl _⟩ dX7_init_183 ?_
  refine x_aload_n 0 dX7_init_186 rfl ?_
  refine x_iconst 1 dX7_init_187 (by decide) ?_
  refine x_bipush 6 dX7_init_188 (by decide) ?_
  refine x_iconst (-1) dX7_init_190 (by decide) ?_
  obtain ⟨q83, h84, hf⟩ := bnd hf
  refine x_callVv (rest := []) [.int 1, .int 6, .int (-1)] (tX7_newHour a 1 6 (-1) q81 h84) wY_X7_newHour wI_X7_newHour wS_X7_newHour wL_X7_52 (grd_p h84) (by decide) rfl rfl (Nat.le_of_ble_eq_true rfl) ⟨Nat.le_of_ble_eq_true rfl, Nat.le_of_ble_eq_true rfl⟩ ⟨Nat.le_refl _, Nat.le_refl _⟩ dX7_init_191 ?_
  refine x_aload_n 0 dX7_init_194 rfl ?_
  obtain ⟨x85, h86, hf⟩ := bnd hf
  refine x_getR wF_X7_16 (by decide) (by decide) rfl h86 dX7_init_195 ?_
  refine x_bipush 18 dX7_init_198 (by decide) ?_
  refine x_iconst 1 dX7_init_200 (by decide) ?_
  obtain ⟨m87, h88, hf⟩ := bnd hf
  refine x_iast h88 dX7_init_201 ?_
  refine x_iconst 0 dX7_init_202 (by decide) ?_
  refine x_istore_n [1, 0] dX7_init_203 (by decide) (lv' := [(0, .ref (gB G + a)), (1, .int 0)]) rfl ?_
  exact tX7_init_204  FU a 0 m87 hf
