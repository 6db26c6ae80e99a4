abbrev LX0_init (G : Gm) (p : Program) (l : Launch) (e : Env) (s : State) (m : MethodId) (args : Array Value) (below : List Frame) (meth : Method) (c : Code) (r : Mu) (pc : Nat) (lv : List (Nat × Value)) (st : List Value) (μ : Mu) : Prop := Lt G p l e { frames := 1, cells := 5, slots := 33, locals := 40 * (1) } s m args below meth c cX0_init 1 RX0 none "<init>" (MQ below (Qm G none r 5) args s 5 33 (fA G)) 5 33 pc lv st μ
def fX0_init (a : Nat) (μ : Mu) : Option (Mu) := grd (isO 0 a μ) ((nA 8 5 μ).bind fun q1 =>
    (pR 0 a 5 q1.1 q1.2).bind fun m3 =>
    (nA 8 7 m3).bind fun q5 =>
    (pR 0 a 6 q5.1 q5.2).bind fun m7 =>
    (nA 8 7 m7).bind fun q9 =>
    (pR 0 a 7 q9.1 q9.2).bind fun m11 =>
    (nA 8 7 m11).bind fun q13 =>
    (pR 0 a 8 q13.1 q13.2).bind fun m15 =>
    (nA 8 7 m15).bind fun q17 =>
    (pR 0 a 9 q17.1 q17.2).bind fun m19 =>
    (fX0_clear a  m19).bind fun q21 =>
    some q21)
set_option maxRecDepth 20000 in
theorem tX0_init {G : Gm} {l : Launch} {r : Mu} (a : Nat) (μ : Mu) (hf : fX0_init a μ = some r) : Mt G l yX0_init cX0_init 1 none (1) 5 33 [.ref (gB G + a)] μ none r := by
  rw [fX0_init] at hf
  have hf := grd_v hf
  refine Mt.of (by decide) (Nat.le_of_ble_eq_true rfl) (fun p e s m args below meth c => ?_)
  refine x_aload_n 0 dX0_init_0 rfl ?_
  refine x_objInit wL_X0_3 (Nat.le_of_ble_eq_true rfl) (Nat.le_of_ble_eq_true rfl) dX0_init_1 ?_
  refine x_aload_n 0 dX0_init_4 rfl ?_
  refine x_iconst 5 dX0_init_5 (by decide) ?_
  obtain ⟨q1, h2, hf⟩ := bnd hf
  refine x_newaL8 5 (by decide) wR_int h2 ⟨Nat.le_of_ble_eq_true rfl, Nat.le_of_ble_eq_true rfl⟩ dX0_init_6 ?_
  obtain ⟨m3, h4, hf⟩ := bnd hf
  refine x_putRF wF_X0_9 (by decide) (by decide) rfl rfl rfl rfl h4 dX0_init_8 ?_
  refine x_aload_n 0 dX0_init_11 rfl ?_
  refine x_bipush 7 dX0_init_12 (by decide) ?_
  obtain ⟨q5, h6, hf⟩ := bnd hf
  refine x_newaL8 7 (by decide) wR_int h6 ⟨Nat.le_of_ble_eq_true rfl, Nat.le_of_ble_eq_true rfl⟩ dX0_init_14 ?_
  obtain ⟨m7, h8, hf⟩ := bnd hf
  refine x_putRF wF_X0_15 (by decide) (by decide) rfl rfl rfl rfl h8 dX0_init_16 ?_
  refine x_aload_n 0 dX0_init_19 rfl ?_
  refine x_bipush 7 dX0_init_20 (by decide) ?_
  obtain ⟨q9, h10, hf⟩ := bnd hf
  refine x_newaL8 7 (by decide) wR_int h10 ⟨Nat.le_of_ble_eq_true rfl, Nat.le_of_ble_eq_true rfl⟩ dX0_init_22 ?_
  obtain ⟨m11, h12, hf⟩ := bnd hf
  refine x_putRF wF_X0_18 (by decide) (by decide) rfl rfl rfl rfl h12 dX0_init_24 ?_
  refine x_aload_n 0 dX0_init_27 rfl ?_
  refine x_bipush 7 dX0_init_28 (by decide) ?_
  obtain ⟨q13, h14, hf⟩ := bnd hf
  refine x_newaL8 7 (by decide) wR_int h14 ⟨Nat.le_of_ble_eq_true rfl, Nat.le_of_ble_eq_true rfl⟩ dX0_init_30 ?_
  obtain ⟨m15, h16, hf⟩ := bnd hf
  refine x_putRF wF_X0_21 (by decide) (by decide) rfl rfl rfl rfl h16 dX0_init_32 ?_
  refine x_aload_n 0 dX0_init_35 rfl ?_
  refine x_bipush 7 dX0_init_36 (by decide) ?_
  obtain ⟨q17, h18, hf⟩ := bnd hf
  refine x_newaL8 7 (by decide) wR_int h18 ⟨Nat.le_of_ble_eq_true rfl, Nat.le_of_ble_eq_true rfl⟩ dX0_init_38 ?_
  obtain ⟨m19, h20, hf⟩ := bnd hf
  refine x_putRF wF_X0_24 (by decide) (by decide) rfl rfl rfl rfl h20 dX0_init_40 ?_
  refine x_aload_n 0 dX0_init_43 rfl ?_
  obtain ⟨q21, h22, hf⟩ := bnd hf
  refine x_callVv (rest := []) [] (tX0_clear a  m19 h22) wY_X0_clear wI_X0_clear wS_X0_clear wL_X0_27 (grd_p h22) (by decide) rfl rfl (Nat.le_of_ble_eq_true rfl) ⟨Nat.le_of_ble_eq_true rfl, Nat.le_of_ble_eq_true rfl⟩ ⟨Nat.le_refl _, Nat.le_refl _⟩ dX0_init_44 ?_
  exact y_vret rfl rfl rfl hf dX0_init_47
abbrev LX1_init (G : Gm) (p : Program) (l : Launch) (e : Env) (s : State) (m : MethodId) (args : Array Value) (below : List Frame) (meth : Method) (c : Code) (r : Mu) (pc : Nat) (lv : List (Nat × Value)) (st : List Value) (μ : Mu) : Prop := Lt G p l e { frames := 1, cells := 1, slots := 9, locals := 40 * (1) } s m args below meth c cX1_init 1 RX1 none "<init>" (MQ below (Qm G none r 1) args s 1 9 (fA G)) 1 9 pc lv st μ
def fX1_init (a : Nat) (μ : Mu) : Option (Mu) := grd (isO 1 a μ) ((nA 8 9 μ).bind fun q1 =>
    (pR 1 a 2 q1.1 q1.2).bind fun m3 =>
    some m3)
set_option maxRecDepth 20000 in
theorem tX1_init {G : Gm} {l : Launch} {r : Mu} (a : Nat) (μ : Mu) (hf : fX1_init a μ = some r) : Mt G l yX1_init cX1_init 1 none (1) 1 9 [.ref (gB G + a)] μ none r := by
  rw [fX1_init] at hf
  have hf := grd_v hf
  refine Mt.of (by decide) (Nat.le_of_ble_eq_true rfl) (fun p e s m args below meth c => ?_)
  refine x_aload_n 0 dX1_init_0 rfl ?_
  refine x_objInit wL_X1_3 (Nat.le_of_ble_eq_true rfl) (Nat.le_of_ble_eq_true rfl) dX1_init_1 ?_
  refine x_aload_n 0 dX1_init_4 rfl ?_
  refine x_bipush 9 dX1_init_5 (by decide) ?_
  obtain ⟨q1, h2, hf⟩ := bnd hf
  refine x_newaL8 9 (by decide) wR_int h2 ⟨Nat.le_of_ble_eq_true rfl, Nat.le_of_ble_eq_true rfl⟩ dX1_init_7 ?_
  obtain ⟨m3, h4, hf⟩ := bnd hf
  refine x_putRF wF_X1_9 (by decide) (by decide) rfl rfl rfl rfl h4 dX1_init_9 ?_
  exact y_vret rfl rfl rfl hf dX1_init_12
abbrev LX2_init (G : Gm) (p : Program) (l : Launch) (e : Env) (s : State) (m : MethodId) (args : Array Value) (below : List Frame) (meth : Method) (c : Code) (r : Mu) (pc : Nat) (lv : List (Nat × Value)) (st : List Value) (μ : Mu) : Prop := Lt G p l e { frames := 1, cells := 6, slots := 40, locals := 40 * (1) } s m args below meth c cX2_init 1 RX2 none "<init>" (MQ below (Qm G none r 6) args s 6 40 (fA G)) 6 40 pc lv st μ
def fX2_init (a : Nat) (μ : Mu) : Option (Mu) := grd (isO 2 a μ) ((nA 8 5 μ).bind fun q1 =>
    (pR 2 a 1 q1.1 q1.2).bind fun m3 =>
    (nA 10 5 m3).bind fun q5 =>
    (pR 2 a 2 q5.1 q5.2).bind fun m7 =>
    (nA 8 8 m7).bind fun q9 =>
    (pR 2 a 3 q9.1 q9.2).bind fun m11 =>
    (nA 8 8 m11).bind fun q13 =>
    (pR 2 a 4 q13.1 q13.2).bind fun m15 =>
    (nA 8 7 m15).bind fun q17 =>
    (pR 2 a 5 q17.1 q17.2).bind fun m19 =>
    (nA 8 7 m19).bind fun q21 =>
    (pR 2 a 6 q21.1 q21.2).bind fun m23 =>
    some m23)
set_option maxRecDepth 20000 in
theorem tX2_init {G : Gm} {l : Launch} {r : Mu} (a : Nat) (μ : Mu) (hf : fX2_init a μ = some r) : Mt G l yX2_init cX2_init 1 none (1) 6 40 [.ref (gB G + a)] μ none r := by
  rw [fX2_init] at hf
  have hf := grd_v hf
  refine Mt.of (by decide) (Nat.le_of_ble_eq_true rfl) (fun p e s m args below meth c => ?_)
  refine x_aload_n 0 dX2_init_0 rfl ?_
  refine x_objInit wL_X2_3 (Nat.le_of_ble_eq_true rfl) (Nat.le_of_ble_eq_true rfl) dX2_init_1 ?_
  refine x_aload_n 0 dX2_init_4 rfl ?_
  refine x_iconst 5 dX2_init_5 (by decide) ?_
  obtain ⟨q1, h2, hf⟩ := bnd hf
  refine x_newaL8 5 (by decide) wR_int h2 ⟨Nat.le_of_ble_eq_true rfl, Nat.le_of_ble_eq_true rfl⟩ dX2_init_6 ?_
  obtain ⟨m3, h4, hf⟩ := bnd hf
  refine x_putRF wF_X2_9 (by decide) (by decide) rfl rfl rfl rfl h4 dX2_init_8 ?_
  refine x_aload_n 0 dX2_init_11 rfl ?_
  refine x_iconst 5 dX2_init_12 (by decide) ?_
  obtain ⟨q5, h6, hf⟩ := bnd hf
  refine x_newaL10 5 (by decide) wR_boolean h6 ⟨Nat.le_of_ble_eq_true rfl, Nat.le_of_ble_eq_true rfl⟩ dX2_init_13 ?_
  obtain ⟨m7, h8, hf⟩ := bnd hf
  refine x_putRF wF_X2_15 (by decide) (by decide) rfl rfl rfl rfl h8 dX2_init_15 ?_
  refine x_aload_n 0 dX2_init_18 rfl ?_
  refine x_bipush 8 dX2_init_19 (by decide) ?_
  obtain ⟨q9, h10, hf⟩ := bnd hf
  refine x_newaL8 8 (by decide) wR_int h10 ⟨Nat.le_of_ble_eq_true rfl, Nat.le_of_ble_eq_true rfl⟩ dX2_init_21 ?_
  obtain ⟨m11, h12, hf⟩ := bnd hf
  refine x_putRF wF_X2_19 (by decide) (by decide) rfl rfl rfl rfl h12 dX2_init_23 ?_
  refine x_aload_n 0 dX2_init_26 rfl ?_
  refine x_bipush 8 dX2_init_27 (by decide) ?_
  obtain ⟨q13, h14, hf⟩ := bnd hf
  refine x_newaL8 8 (by decide) wR_int h14 ⟨Nat.le_of_ble_eq_true rfl, Nat.le_of_ble_eq_true rfl⟩ dX2_init_29 ?_
  obtain ⟨m15, h16, hf⟩ := bnd hf
  refine x_putRF wF_X2_22 (by decide) (by decide) rfl rfl rfl rfl h16 dX2_init_31 ?_
  refine x_aload_n 0 dX2_init_34 rfl ?_
  refine x_bipush 7 dX2_init_35 (by decide) ?_
  obtain ⟨q17, h18, hf⟩ := bnd hf
  refine x_newaL8 7 (by decide) wR_int h18 ⟨Nat.le_of_ble_eq_true rfl, Nat.le_of_ble_eq_true rfl⟩ dX2_init_37 ?_
  obtain ⟨m19, h20, hf⟩ := bnd hf
  refine x_putRF wF_X2_25 (by decide) (by decide) rfl rfl rfl rfl h20 dX2_init_39 ?_
  refine x_aload_n 0 dX2_init_42 rfl ?_
  refine x_bipush 7 dX2_init_43 (by decide) ?_
  obtain ⟨q21, h22, hf⟩ := bnd hf
  refine x_newaL8 7 (by decide) wR_int h22 ⟨Nat.le_of_ble_eq_true rfl, Nat.le_of_ble_eq_true rfl⟩ dX2_init_45 ?_
  obtain ⟨m23, h24, hf⟩ := bnd hf
  refine x_putRF wF_X2_28 (by decide) (by decide) rfl rfl rfl rfl h24 dX2_init_47 ?_
  exact y_vret rfl rfl rfl hf dX2_init_50
abbrev LX3_init (G : Gm) (p : Program) (l : Launch) (e : Env) (s : State) (m : MethodId) (args : Array Value) (below : List Frame) (meth : Method) (c : Code) (r : Mu) (pc : Nat) (lv : List (Nat × Value)) (st : List Value) (μ : Mu) : Prop := Lt G p l e { frames := 1, cells := 2, slots := 203, locals := 40 * (1) } s m args below meth c cX3_init 1 RX3 none "<init>" (MQ below (Qm G none r 2) args s 2 203 (fA G)) 2 203 pc lv st μ
def fX3_init (a : Nat) (μ : Mu) : Option (Mu) := grd (isO 3 a μ) ((nA 9 200 μ).bind fun q1 =>
    (pR 3 a 1 q1.1 q1.2).bind fun m3 =>
    (nA 8 3 m3).bind fun q5 =>
    (pR 3 a 2 q5.1 q5.2).bind fun m7 =>
    some m7)
set_option maxRecDepth 20000 in
theorem tX3_init {G : Gm} {l : Launch} {r : Mu} (a : Nat) (μ : Mu) (hf : fX3_init a μ = some r) : Mt G l yX3_init cX3_init 1 none (1) 2 203 [.ref (gB G + a)] μ none r := by
  rw [fX3_init] at hf
  have hf := grd_v hf
  refine Mt.of (by decide) (Nat.le_of_ble_eq_true rfl) (fun p e s m args below meth c => ?_)
  refine x_aload_n 0 dX3_init_0 rfl ?_
  refine x_objInit wL_X3_3 (Nat.le_of_ble_eq_true rfl) (Nat.le_of_ble_eq_true rfl) dX3_init_1 ?_
  refine x_aload_n 0 dX3_init_4 rfl ?_
  refine x_sipush 200 dX3_init_5 (by decide) ?_
  obtain ⟨q1, h2, hf⟩ := bnd hf
  refine x_newaL9 200 (by decide) wR_char h2 ⟨Nat.le_of_ble_eq_true rfl, Nat.le_of_ble_eq_true rfl⟩ dX3_init_8 ?_
  obtain ⟨m3, h4, hf⟩ := bnd hf
  refine x_putRF wF_X3_11 (by decide) (by decide) rfl rfl rfl rfl h4 dX3_init_10 ?_
  refine x_aload_n 0 dX3_init_13 rfl ?_
  refine x_iconst 3 dX3_init_14 (by decide) ?_
  obtain ⟨q5, h6, hf⟩ := bnd hf
  refine x_newaL8 3 (by decide) wR_int h6 ⟨Nat.le_of_ble_eq_true rfl, Nat.le_of_ble_eq_true rfl⟩ dX3_init_15 ?_
  obtain ⟨m7, h8, hf⟩ := bnd hf
  refine x_putRF wF_X3_15 (by decide) (by decide) rfl rfl rfl rfl h8 dX3_init_17 ?_
  exact y_vret rfl rfl rfl hf dX3_init_20
abbrev LX5_init (G : Gm) (p : Program) (l : Launch) (e : Env) (s : State) (m : MethodId) (args : Array Value) (below : List Frame) (meth : Method) (c : Code) (r : Mu) (pc : Nat) (lv : List (Nat × Value)) (st : List Value) (μ : Mu) : Prop := Lt G p l e { frames := 1, cells := 3, slots := 18, locals := 40 * (1) } s m args below meth c cX5_init 1 RX5 none "<init>" (MQ below (Qm G none r 3) args s 3 18 (fA G)) 3 18 pc lv st μ
def fX5_init (a : Nat) (μ : Mu) : Option (Mu) := grd (isO 5 a μ) ((nA 8 6 μ).bind fun q1 =>
    (pR 5 a 1 q1.1 q1.2).bind fun m3 =>
    (nA 8 6 m3).bind fun q5 =>
    (pR 5 a 2 q5.1 q5.2).bind fun m7 =>
    (nA 10 6 m7).bind fun q9 =>
    (pR 5 a 3 q9.1 q9.2).bind fun m11 =>
    some m11)
set_option maxRecDepth 20000 in
theorem tX5_init {G : Gm} {l : Launch} {r : Mu} (a : Nat) (μ : Mu) (hf : fX5_init a μ = some r) : Mt G l yX5_init cX5_init 1 none (1) 3 18 [.ref (gB G + a)] μ none r := by
  rw [fX5_init] at hf
  have hf := grd_v hf
  refine Mt.of (by decide) (Nat.le_of_ble_eq_true rfl) (fun p e s m args below meth c => ?_)
  refine x_aload_n 0 dX5_init_0 rfl ?_
  refine x_objInit wL_X5_3 (Nat.le_of_ble_eq_true rfl) (Nat.le_of_ble_eq_true rfl) dX5_init_1 ?_
  refine x_aload_n 0 dX5_init_4 rfl ?_
  refine x_bipush 6 dX5_init_5 (by decide) ?_
  obtain ⟨q1, h2, hf⟩ := bnd hf
  refine x_newaL8 6 (by decide) wR_int h2 ⟨Nat.le_of_ble_eq_true rfl, Nat.le_of_ble_eq_true rfl⟩ dX5_init_7 ?_
  obtain ⟨m3, h4, hf⟩ := bnd hf
  refine x_putRF wF_X5_11 (by decide) (by decide) rfl rfl rfl rfl h4 dX5_init_9 ?_
  refine x_aload_n 0 dX5_init_12 rfl ?_
  refine x_bipush 6 dX5_init_13 (by decide) ?_
  obtain ⟨q5, h6, hf⟩ := bnd hf
  refine x_newaL8 6 (by decide) wR_int h6 ⟨Nat.le_of_ble_eq_true rfl, Nat.le_of_ble_eq_true rfl⟩ dX5_init_15 ?_
  obtain ⟨m7, h8, hf⟩ := bnd hf
  refine x_putRF wF_X5_15 (by decide) (by decide) rfl rfl rfl rfl h8 dX5_init_17 ?_
  refine x_aload_n 0 dX5_init_20 rfl ?_
  refine x_bipush 6 dX5_init_21 (by decide) ?_
  obtain ⟨q9, h10, hf⟩ := bnd hf
  refine x_newaL10 6 (by decide) wR_boolean h10 ⟨Nat.le_of_ble_eq_true rfl, Nat.le_of_ble_eq_true rfl⟩ dX5_init_23 ?_
  obtain ⟨m11, h12, hf⟩ := bnd hf
  refine x_putRF wF_X5_18 (by decide) (by decide) rfl rfl rfl rfl h12 dX5_init_25 ?_
  exact y_vret rfl rfl rfl hf dX5_init_28
