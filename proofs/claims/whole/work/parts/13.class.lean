abbrev LX6_write (G : Gm) (p : Program) (l : Launch) (e : Env) (s : State) (m : MethodId) (args : Array Value) (below : List Frame) (meth : Method) (c : Code) (r : Int32 × Mu) (pc : Nat) (lv : List (Nat × Value)) (st : List Value) (μ : Mu) : Prop := Lt G p l e { frames := 1, cells := 0, slots := 0, locals := 40 * (1) } s m args below meth c cX6_write 2 RX6 (some .int) "write" (MQ below (Qm G (some (.int r.1)) r.2 0) args s 0 0 (fA G)) 0 0 pc lv st μ
def fX6_write (a : Nat) (u1 : Int32) (μ : Mu) : Option (Int32 × Mu) := grd (isO 6 a μ) ((if u1 < 32 then
    some ((-1), μ)
    else
    (if u1 ≤ 126 then
    (gR 6 a 0 μ).bind fun x3 =>
    (fX3_add x3 u1 μ).bind fun q5 =>
    (if q5.1 = 0 then
    some ((-3), q5.2)
    else
    (gR 6 a 0 q5.2).bind fun x8 =>
    (gI 3 x8 0 q5.2).bind fun x10 =>
    some (x10, q5.2))
    else
    some ((-1), μ))))
set_option maxRecDepth 20000 in
theorem tX6_write {G : Gm} {l : Launch} {r : Int32 × Mu} (a : Nat) (u1 : Int32) (μ : Mu) (hf : fX6_write a u1 μ = some r) : Mt G l yX6_write cX6_write 2 (some .int) (1) 0 0 [.ref (gB G + a), .int u1] μ (some (.int r.1)) r.2 := by
  rw [fX6_write] at hf
  have hf := grd_v hf
  refine Mt.of (by decide) (Nat.le_of_ble_eq_true rfl) (fun p e s m args below meth c => ?_)
  show LX6_write G p l e s m args below meth c r 0 [(0, .ref (gB G + a)), (1, .int u1)] [] μ
  refine x_iload_n 1 dX6_write_0 rfl ?_
  refine x_bipush 32 dX6_write_1 (by decide) ?_
  refine x_icmp_lt 12 dX6_write_3 rfl (fun c1 => ?_) (fun c1 => ?_)
  · rw [if_pos c1] at hf
    refine x_iconst (-1) dX6_write_12 (by decide) ?_
    exact y_iret rfl rfl rfl hf dX6_write_13
  · rw [if_neg c1] at hf
    refine x_iload_n 1 dX6_write_6 rfl ?_
    refine x_bipush 126 dX6_write_7 (by decide) ?_
    refine x_icmp_le 14 dX6_write_9 rfl (fun c2 => ?_) (fun c2 => ?_)
    · rw [if_pos c2] at hf
      refine x_aload_n 0 dX6_write_14 rfl ?_
      obtain ⟨x3, h4, hf⟩ := bnd hf
      refine x_getR wF_X6_12 (by decide) (by decide) rfl h4 dX6_write_15 ?_
      refine x_iload_n 1 dX6_write_18 rfl ?_
      obtain ⟨q5, h6, hf⟩ := bnd hf
      refine x_callVi (rest := []) [.int u1] (tX3_add x3 u1 μ h6) wY_X3_add wI_X3_add wS_X3_add wL_X6_71 (grd_p h6) (by decide) rfl rfl (Nat.le_of_ble_eq_true rfl) ⟨Nat.le_of_ble_eq_true rfl, Nat.le_of_ble_eq_true rfl⟩ ⟨Nat.le_refl _, Nat.le_refl _⟩ dX6_write_19 ?_
      refine x_if_eq 35 dX6_write_22 rfl (fun c7 => ?_) (fun c7 => ?_)
      · rw [if_pos c7] at hf
        refine x_bipush (-3) dX6_write_35 (by decide) ?_
        exact y_iret rfl rfl rfl hf dX6_write_37
      · rw [if_neg c7] at hf
        refine x_aload_n 0 dX6_write_25 rfl ?_
        obtain ⟨x8, h9, hf⟩ := bnd hf
        refine x_getR wF_X6_12 (by decide) (by decide) rfl h9 dX6_write_26 ?_
        obtain ⟨x10, h11, hf⟩ := bnd hf
        refine x_getI wF_X6_82 (by decide) (by decide) rfl h11 dX6_write_29 ?_
        refine x_goto 37 dX6_write_32 rfl ?_
        exact y_iret rfl rfl rfl hf dX6_write_37
    · rw [if_neg c2] at hf
      refine x_iconst (-1) dX6_write_12 (by decide) ?_
      exact y_iret rfl rfl rfl hf dX6_write_13
abbrev LX6_wipe (G : Gm) (p : Program) (l : Launch) (e : Env) (s : State) (m : MethodId) (args : Array Value) (below : List Frame) (meth : Method) (c : Code) (r : Int32 × Mu) (pc : Nat) (lv : List (Nat × Value)) (st : List Value) (μ : Mu) : Prop := Lt G p l e { frames := 1, cells := 0, slots := 0, locals := 40 * (1) } s m args below meth c cX6_wipe 1 RX6 (some .int) "wipe" (MQ below (Qm G (some (.int r.1)) r.2 0) args s 0 0 (fA G)) 0 0 pc lv st μ
def fX6_wipe (a : Nat) (μ : Mu) : Option (Int32 × Mu) := grd (isO 6 a μ) ((gR 6 a 0 μ).bind fun x1 =>
    (fX3_empty x1  μ).bind fun q3 =>
    some (q3.1, q3.2))
set_option maxRecDepth 20000 in
theorem tX6_wipe {G : Gm} {l : Launch} {r : Int32 × Mu} (a : Nat) (μ : Mu) (hf : fX6_wipe a μ = some r) : Mt G l yX6_wipe cX6_wipe 1 (some .int) (1) 0 0 [.ref (gB G + a)] μ (some (.int r.1)) r.2 := by
  rw [fX6_wipe] at hf
  have hf := grd_v hf
  refine Mt.of (by decide) (Nat.le_of_ble_eq_true rfl) (fun p e s m args below meth c => ?_)
  show LX6_wipe G p l e s m args below meth c r 0 [(0, .ref (gB G + a))] [] μ
  refine x_aload_n 0 dX6_wipe_0 rfl ?_
  obtain ⟨x1, h2, hf⟩ := bnd hf
  refine x_getR wF_X6_12 (by decide) (by decide) rfl h2 dX6_wipe_1 ?_
  obtain ⟨q3, h4, hf⟩ := bnd hf
  refine x_callVi (rest := []) [] (tX3_empty x1  μ h4) wY_X3_empty wI_X3_empty wS_X3_empty wL_X6_79 (grd_p h4) (by decide) rfl rfl (Nat.le_of_ble_eq_true rfl) ⟨Nat.le_of_ble_eq_true rfl, Nat.le_of_ble_eq_true rfl⟩ ⟨Nat.le_refl _, Nat.le_refl _⟩ dX6_wipe_4 ?_
  exact y_iret rfl rfl rfl hf dX6_wipe_7
abbrev LX6_fault (G : Gm) (p : Program) (l : Launch) (e : Env) (s : State) (m : MethodId) (args : Array Value) (below : List Frame) (meth : Method) (c : Code) (r : Int32 × Mu) (pc : Nat) (lv : List (Nat × Value)) (st : List Value) (μ : Mu) : Prop := Lt G p l e { frames := 7, cells := 0, slots := 0, locals := 40 * (7) } s m args below meth c cX6_fault 1 RX6 (some .int) "fault" (MQ below (Qm G (some (.int r.1)) r.2 0) args s 0 0 (fA G)) 0 0 pc lv st μ
def fX6_fault (a : Nat) (μ : Mu) : Option (Int32 × Mu) := grd (isO 6 a μ) ((gR 6 a 0 μ).bind fun x1 =>
    (gR 6 a 2 μ).bind fun x3 =>
    (fX3_readInto x1 x3 μ).bind fun q5 =>
    some (q5.1, q5.2))
set_option maxRecDepth 20000 in
theorem tX6_fault {G : Gm} {l : Launch} {r : Int32 × Mu} (a : Nat) (μ : Mu) (hf : fX6_fault a μ = some r) : Mt G l yX6_fault cX6_fault 1 (some .int) (7) 0 0 [.ref (gB G + a)] μ (some (.int r.1)) r.2 := by
  rw [fX6_fault] at hf
  have hf := grd_v hf
  refine Mt.of (by decide) (Nat.le_of_ble_eq_true rfl) (fun p e s m args below meth c => ?_)
  show LX6_fault G p l e s m args below meth c r 0 [(0, .ref (gB G + a))] [] μ
  refine x_aload_n 0 dX6_fault_0 rfl ?_
  obtain ⟨x1, h2, hf⟩ := bnd hf
  refine x_getR wF_X6_12 (by decide) (by decide) rfl h2 dX6_fault_1 ?_
  refine x_aload_n 0 dX6_fault_4 rfl ?_
  obtain ⟨x3, h4, hf⟩ := bnd hf
  refine x_getR wF_X6_23 (by decide) (by decide) rfl h4 dX6_fault_5 ?_
  obtain ⟨q5, h6, hf⟩ := bnd hf
  refine x_callVi (rest := []) [.ref (gB G + x3)] (tX3_readInto x1 x3 μ h6) wY_X3_readInto wI_X3_readInto wS_X3_readInto wL_X6_75 (grd_p h6) (by decide) rfl rfl (Nat.le_of_ble_eq_true rfl) ⟨Nat.le_of_ble_eq_true rfl, Nat.le_of_ble_eq_true rfl⟩ ⟨Nat.le_refl _, Nat.le_refl _⟩ dX6_fault_8 ?_
  exact y_iret rfl rfl rfl hf dX6_fault_11
abbrev LX6_lay (G : Gm) (p : Program) (l : Launch) (e : Env) (s : State) (m : MethodId) (args : Array Value) (below : List Frame) (meth : Method) (c : Code) (r : Int32 × Mu) (pc : Nat) (lv : List (Nat × Value)) (st : List Value) (μ : Mu) : Prop := Lt G p l e { frames := 7, cells := 0, slots := 0, locals := 40 * (7) } s m args below meth c cX6_lay 1 RX6 (some .int) "lay" (MQ below (Qm G (some (.int r.1)) r.2 0) args s 0 0 (fA G)) 0 0 pc lv st μ
def fX6_lay (a : Nat) (μ : Mu) : Option (Int32 × Mu) := grd (isO 6 a μ) ((gR 6 a 0 μ).bind fun x1 =>
    (gR 6 a 2 μ).bind fun x3 =>
    (fX3_readInto x1 x3 μ).bind fun q5 =>
    (if q5.1 = (-4) then
    (gR 6 a 2 q5.2).bind fun x8 =>
    (gI 0 x8 0 q5.2).bind fun x10 =>
    (if x10 = 0 then
    some ((-2), q5.2)
    else
    (gR 6 a 2 q5.2).bind fun x13 =>
    (gI 0 x13 1 q5.2).bind fun x15 =>
    (if x15 = 0 then
    some ((-2), q5.2)
    else
    (gR 6 a 1 q5.2).bind fun x18 =>
    (gR 6 a 2 q5.2).bind fun x20 =>
    (fX0_copyFrom x18 x20 q5.2).bind fun q22 =>
    (gR 6 a 3 q22).bind fun x24 =>
    (fX4_empty x24  q22).bind fun q26 =>
    (gR 6 a 4 q26).bind fun x28 =>
    (fX4_empty x28  q26).bind fun q30 =>
    (gR 6 a 5 q30).bind fun x32 =>
    (fX5_empty x32  q30).bind fun q34 =>
    (gR 6 a 1 q34.2).bind fun x36 =>
    (gI 0 x36 1 q34.2).bind fun x38 =>
    some (x38, q34.2)))
    else
    some ((-2), q5.2)))
set_option maxRecDepth 20000 in
theorem tX6_lay {G : Gm} {l : Launch} {r : Int32 × Mu} (a : Nat) (μ : Mu) (hf : fX6_lay a μ = some r) : Mt G l yX6_lay cX6_lay 1 (some .int) (7) 0 0 [.ref (gB G + a)] μ (some (.int r.1)) r.2 := by
  rw [fX6_lay] at hf
  have hf := grd_v hf
  refine Mt.of (by decide) (Nat.le_of_ble_eq_true rfl) (fun p e s m args below meth c => ?_)
  show LX6_lay G p l e s m args below meth c r 0 [(0, .ref (gB G + a))] [] μ
  refine x_aload_n 0 dX6_lay_0 rfl ?_
  obtain ⟨x1, h2, hf⟩ := bnd hf
  refine x_getR wF_X6_12 (by decide) (by decide) rfl h2 dX6_lay_1 ?_
  refine x_aload_n 0 dX6_lay_4 rfl ?_
  obtain ⟨x3, h4, hf⟩ := bnd hf
  refine x_getR wF_X6_23 (by decide) (by decide) rfl h4 dX6_lay_5 ?_
  obtain ⟨q5, h6, hf⟩ := bnd hf
  refine x_callVi (rest := []) [.ref (gB G + x3)] (tX3_readInto x1 x3 μ h6) wY_X3_readInto wI_X3_readInto wS_X3_readInto wL_X6_75 (grd_p h6) (by decide) rfl rfl (Nat.le_of_ble_eq_true rfl) ⟨Nat.le_of_ble_eq_true rfl, Nat.le_of_ble_eq_true rfl⟩ ⟨Nat.le_refl _, Nat.le_refl _⟩ dX6_lay_8 ?_
  refine x_bipush (-4) dX6_lay_11 (by decide) ?_
  refine x_icmp_ne 36 dX6_lay_13 rfl (fun c7 => ?_) (fun c7 => ?_)
  · rw [if_neg c7] at hf
    refine x_bipush (-2) dX6_lay_36 (by decide) ?_
    exact y_iret rfl rfl rfl hf dX6_lay_38
  · rw [if_pos c7] at hf
    refine x_aload_n 0 dX6_lay_16 rfl ?_
    obtain ⟨x8, h9, hf⟩ := bnd hf
    refine x_getR wF_X6_23 (by decide) (by decide) rfl h9 dX6_lay_17 ?_
    obtain ⟨x10, h11, hf⟩ := bnd hf
    refine x_getI wF_X6_85 (by decide) (by decide) rfl h11 dX6_lay_20 ?_
    refine x_if_eq 36 dX6_lay_23 rfl (fun c12 => ?_) (fun c12 => ?_)
    · rw [if_pos c12] at hf
      refine x_bipush (-2) dX6_lay_36 (by decide) ?_
      exact y_iret rfl rfl rfl hf dX6_lay_38
    · rw [if_neg c12] at hf
      refine x_aload_n 0 dX6_lay_26 rfl ?_
      obtain ⟨x13, h14, hf⟩ := bnd hf
      refine x_getR wF_X6_23 (by decide) (by decide) rfl h14 dX6_lay_27 ?_
      obtain ⟨x15, h16, hf⟩ := bnd hf
      refine x_getI wF_X6_88 (by decide) (by decide) rfl h16 dX6_lay_30 ?_
      refine x_if_ne 39 dX6_lay_33 rfl (fun c17 => ?_) (fun c17 => ?_)
      · rw [if_neg c17] at hf
        refine x_aload_n 0 dX6_lay_39 rfl ?_
        obtain ⟨x18, h19, hf⟩ := bnd hf
        refine x_getR wF_X6_19 (by decide) (by decide) rfl h19 dX6_lay_40 ?_
        refine x_aload_n 0 dX6_lay_43 rfl ?_
        obtain ⟨x20, h21, hf⟩ := bnd hf
        refine x_getR wF_X6_23 (by decide) (by decide) rfl h21 dX6_lay_44 ?_
        obtain ⟨q22, h23, hf⟩ := bnd hf
        refine x_callVv (rest := []) [.ref (gB G + x20)] (tX0_copyFrom x18 x20 q5.2 h23) wY_X0_copyFrom wI_X0_copyFrom wS_X0_copyFrom wL_X6_91 (grd_p h23) (by decide) rfl rfl (Nat.le_of_ble_eq_true rfl) ⟨Nat.le_of_ble_eq_true rfl, Nat.le_of_ble_eq_true rfl⟩ ⟨Nat.le_refl _, Nat.le_refl _⟩ dX6_lay_47 ?_
        refine x_aload_n 0 dX6_lay_50 rfl ?_
        obtain ⟨x24, h25, hf⟩ := bnd hf
        refine x_getR wF_X6_31 (by decide) (by decide) rfl h25 dX6_lay_51 ?_
        obtain ⟨q26, h27, hf⟩ := bnd hf
        refine x_callVv (rest := []) [] (tX4_empty x24  q22 h27) wY_X4_empty wI_X4_empty wS_X4_empty wL_X6_95 (grd_p h27) (by decide) rfl rfl (Nat.le_of_ble_eq_true rfl) ⟨Nat.le_of_ble_eq_true rfl, Nat.le_of_ble_eq_true rfl⟩ ⟨Nat.le_refl _, Nat.le_refl _⟩ dX6_lay_54 ?_
        refine x_aload_n 0 dX6_lay_57 rfl ?_
        obtain ⟨x28, h29, hf⟩ := bnd hf
        refine x_getR wF_X6_35 (by decide) (by decide) rfl h29 dX6_lay_58 ?_
        obtain ⟨q30, h31, hf⟩ := bnd hf
        refine x_callVv (rest := []) [] (tX4_empty x28  q26 h31) wY_X4_empty wI_X4_empty wS_X4_empty wL_X6_95 (grd_p h31) (by decide) rfl rfl (Nat.le_of_ble_eq_true rfl) ⟨Nat.le_of_ble_eq_true rfl, Nat.le_of_ble_eq_true rfl⟩ ⟨Nat.le_refl _, Nat.le_refl _⟩ dX6_lay_61 ?_
        refine x_aload_n 0 dX6_lay_64 rfl ?_
        obtain ⟨x32, h33, hf⟩ := bnd hf
        refine x_getR wF_X6_41 (by decide) (by decide) rfl h33 dX6_lay_65 ?_
        obtain ⟨q34, h35, hf⟩ := bnd hf
        refine x_callVi (rest := []) [] (tX5_empty x32  q30 h35) wY_X5_empty wI_X5_empty wS_X5_empty wL_X6_97 (grd_p h35) (by decide) rfl rfl (Nat.le_of_ble_eq_true rfl) ⟨Nat.le_of_ble_eq_true rfl, Nat.le_of_ble_eq_true rfl⟩ ⟨Nat.le_refl _, Nat.le_refl _⟩ dX6_lay_68 ?_
        refine x_pop dX6_lay_71 rfl ?_
        refine x_aload_n 0 dX6_lay_72 rfl ?_
        obtain ⟨x36, h37, hf⟩ := bnd hf
        refine x_getR wF_X6_19 (by decide) (by decide) rfl h37 dX6_lay_73 ?_
        obtain ⟨x38, h39, hf⟩ := bnd hf
        refine x_getI wF_X6_88 (by decide) (by decide) rfl h39 dX6_lay_76 ?_
        exact y_iret rfl rfl rfl hf dX6_lay_79
      · rw [if_pos c17] at hf
        refine x_bipush (-2) dX6_lay_36 (by decide) ?_
        exact y_iret rfl rfl rfl hf dX6_lay_38
abbrev LX6_plot (G : Gm) (p : Program) (l : Launch) (e : Env) (s : State) (m : MethodId) (args : Array Value) (below : List Frame) (meth : Method) (c : Code) (r : Int32 × Mu) (pc : Nat) (lv : List (Nat × Value)) (st : List Value) (μ : Mu) : Prop := Lt G p l e { frames := 3, cells := 0, slots := 0, locals := 40 * (3) } s m args below meth c cX6_plot 3 RX6 (some .int) "plot" (MQ below (Qm G (some (.int r.1)) r.2 0) args s 0 0 (fA G)) 0 0 pc lv st μ
def fX6_plot (a : Nat) (u1 : Int32) (u2 : Int32) (μ : Mu) : Option (Int32 × Mu) := grd (isO 6 a μ) ((gR 6 a 1 μ).bind fun x1 =>
    (fX0_hasPlot x1 u1 μ).bind fun q3 =>
    (if q3.1 = 0 then
    some ((-1), q3.2)
    else
    (if u2 = 0 then
    (gR 6 a 1 q3.2).bind fun x7 =>
    (fX0_roomOf x7 u1 q3.2).bind fun q9 =>
    some (q9.1, q9.2)
    else if u2 = 1 then
    (gR 6 a 1 q3.2).bind fun x12 =>
    (fX0_freeIn x12 u1 q3.2).bind fun q14 =>
    some (q14.1, q14.2)
    else if u2 = 2 then
    (gR 6 a 1 q3.2).bind fun x17 =>
    (fX0_heightOf x17 u1 q3.2).bind fun q19 =>
    some (q19.1, q19.2)
    else if u2 = 3 then
    (gR 6 a 1 q3.2).bind fun x22 =>
    (fX0_topOf x22 u1 q3.2).bind fun q24 =>
    some (q24.1, q24.2)
    else some ((-1), q3.2))))
set_option maxRecDepth 20000 in
theorem tX6_plot {G : Gm} {l : Launch} {r : Int32 × Mu} (a : Nat) (u1 : Int32) (u2 : Int32) (μ : Mu) (hf : fX6_plot a u1 u2 μ = some r) : Mt G l yX6_plot cX6_plot 3 (some .int) (3) 0 0 [.ref (gB G + a), .int u1, .int u2] μ (some (.int r.1)) r.2 := by
  rw [fX6_plot] at hf
  have hf := grd_v hf
  refine Mt.of (by decide) (Nat.le_of_ble_eq_true rfl) (fun p e s m args below meth c => ?_)
  show LX6_plot G p l e s m args below meth c r 0 [(0, .ref (gB G + a)), (1, .int u1), (2, .int u2)] [] μ
  refine x_aload_n 0 dX6_plot_0 rfl ?_
  obtain ⟨x1, h2, hf⟩ := bnd hf
  refine x_getR wF_X6_19 (by decide) (by decide) rfl h2 dX6_plot_1 ?_
  refine x_iload_n 1 dX6_plot_4 rfl ?_
  obtain ⟨q3, h4, hf⟩ := bnd hf
  refine x_callVi (rest := []) [.int u1] (tX0_hasPlot x1 u1 μ h4) wY_X0_hasPlot wI_X0_hasPlot wS_X0_hasPlot wL_X6_98 (grd_p h4) (by decide) rfl rfl (Nat.le_of_ble_eq_true rfl) ⟨Nat.le_of_ble_eq_true rfl, Nat.le_of_ble_eq_true rfl⟩ ⟨Nat.le_refl _, Nat.le_refl _⟩ dX6_plot_5 ?_
  refine x_if_ne 13 dX6_plot_8 rfl (fun c5 => ?_) (fun c5 => ?_)
  · rw [if_neg c5] at hf
    refine x_iload_n 2 dX6_plot_13 rfl ?_
    by_cases c6 : u2 = 0
    · rw [if_pos c6] at hf
      refine x_tableIn 44 dX6_plot_14 (by rw [c6]; decide) (by rw [c6]; decide) (by rw [c6]; rfl) rfl ?_
      refine x_aload_n 0 dX6_plot_44 rfl ?_
      obtain ⟨x7, h8, hf⟩ := bnd hf
      refine x_getR wF_X6_19 (by decide) (by decide) rfl h8 dX6_plot_45 ?_
      refine x_iload_n 1 dX6_plot_48 rfl ?_
      obtain ⟨q9, h10, hf⟩ := bnd hf
      refine x_callVi (rest := []) [.int u1] (tX0_roomOf x7 u1 q3.2 h10) wY_X0_roomOf wI_X0_roomOf wS_X0_roomOf wL_X6_101 (grd_p h10) (by decide) rfl rfl (Nat.le_of_ble_eq_true rfl) ⟨Nat.le_of_ble_eq_true rfl, Nat.le_of_ble_eq_true rfl⟩ ⟨Nat.le_refl _, Nat.le_refl _⟩ dX6_plot_49 ?_
      exact y_iret rfl rfl rfl hf dX6_plot_52
    rw [if_neg c6] at hf
    by_cases c11 : u2 = 1
    · rw [if_pos c11] at hf
      refine x_tableIn 53 dX6_plot_14 (by rw [c11]; decide) (by rw [c11]; decide) (by rw [c11]; rfl) rfl ?_
      refine x_aload_n 0 dX6_plot_53 rfl ?_
      obtain ⟨x12, h13, hf⟩ := bnd hf
      refine x_getR wF_X6_19 (by decide) (by decide) rfl h13 dX6_plot_54 ?_
      refine x_iload_n 1 dX6_plot_57 rfl ?_
      obtain ⟨q14, h15, hf⟩ := bnd hf
      refine x_callVi (rest := []) [.int u1] (tX0_freeIn x12 u1 q3.2 h15) wY_X0_freeIn wI_X0_freeIn wS_X0_freeIn wL_X6_105 (grd_p h15) (by decide) rfl rfl (Nat.le_of_ble_eq_true rfl) ⟨Nat.le_of_ble_eq_true rfl, Nat.le_of_ble_eq_true rfl⟩ ⟨Nat.le_refl _, Nat.le_refl _⟩ dX6_plot_58 ?_
      exact y_iret rfl rfl rfl hf dX6_plot_61
    rw [if_neg c11] at hf
    by_cases c16 : u2 = 2
    · rw [if_pos c16] at hf
      refine x_tableIn 62 dX6_plot_14 (by rw [c16]; decide) (by rw [c16]; decide) (by rw [c16]; rfl) rfl ?_
      refine x_aload_n 0 dX6_plot_62 rfl ?_
      obtain ⟨x17, h18, hf⟩ := bnd hf
      refine x_getR wF_X6_19 (by decide) (by decide) rfl h18 dX6_plot_63 ?_
      refine x_iload_n 1 dX6_plot_66 rfl ?_
      obtain ⟨q19, h20, hf⟩ := bnd hf
      refine x_callVi (rest := []) [.int u1] (tX0_heightOf x17 u1 q3.2 h20) wY_X0_heightOf wI_X0_heightOf wS_X0_heightOf wL_X6_108 (grd_p h20) (by decide) rfl rfl (Nat.le_of_ble_eq_true rfl) ⟨Nat.le_of_ble_eq_true rfl, Nat.le_of_ble_eq_true rfl⟩ ⟨Nat.le_refl _, Nat.le_refl _⟩ dX6_plot_67 ?_
      exact y_iret rfl rfl rfl hf dX6_plot_70
    rw [if_neg c16] at hf
    by_cases c21 : u2 = 3
    · rw [if_pos c21] at hf
      refine x_tableIn 71 dX6_plot_14 (by rw [c21]; decide) (by rw [c21]; decide) (by rw [c21]; rfl) rfl ?_
      refine x_aload_n 0 dX6_plot_71 rfl ?_
      obtain ⟨x22, h23, hf⟩ := bnd hf
      refine x_getR wF_X6_19 (by decide) (by decide) rfl h23 dX6_plot_72 ?_
      refine x_iload_n 1 dX6_plot_75 rfl ?_
      obtain ⟨q24, h25, hf⟩ := bnd hf
      refine x_callVi (rest := []) [.int u1] (tX0_topOf x22 u1 q3.2 h25) wY_X0_topOf wI_X0_topOf wS_X0_topOf wL_X6_111 (grd_p h25) (by decide) rfl rfl (Nat.le_of_ble_eq_true rfl) ⟨Nat.le_of_ble_eq_true rfl, Nat.le_of_ble_eq_true rfl⟩ ⟨Nat.le_refl _, Nat.le_refl _⟩ dX6_plot_76 ?_
      exact y_iret rfl rfl rfl hf dX6_plot_79
    rw [if_neg c21] at hf
    refine x_tableOut 80 dX6_plot_14 (tsw_out 4 (by decide) (fun j hj => ?_)) rfl ?_
    · match j, hj with
      | 0, _ => exact c6
      | 1, _ => exact c11
      | 2, _ => exact c16
      | 3, _ => exact c21
    · refine x_iconst (-1) dX6_plot_80 (by decide) ?_
      exact y_iret rfl rfl rfl hf dX6_plot_81
  · rw [if_pos c5] at hf
    refine x_iconst (-1) dX6_plot_11 (by decide) ?_
    exact y_iret rfl rfl rfl hf dX6_plot_12
abbrev LX6_hour (G : Gm) (p : Program) (l : Launch) (e : Env) (s : State) (m : MethodId) (args : Array Value) (below : List Frame) (meth : Method) (c : Code) (r : Int32 × Mu) (pc : Nat) (lv : List (Nat × Value)) (st : List Value) (μ : Mu) : Prop := Lt G p l e { frames := 2, cells := 0, slots := 0, locals := 40 * (2) } s m args below meth c cX6_hour 3 RX6 (some .int) "hour" (MQ below (Qm G (some (.int r.1)) r.2 0) args s 0 0 (fA G)) 0 0 pc lv st μ
def fX6_hour (a : Nat) (u1 : Int32) (u2 : Int32) (μ : Mu) : Option (Int32 × Mu) := grd (isO 6 a μ) ((gR 6 a 1 μ).bind fun x1 =>
    (fX0_hasHour x1 u1 μ).bind fun q3 =>
    (if q3.1 = 0 then
    some ((-1), q3.2)
    else
    (if u2 = 0 then
    (gR 6 a 1 q3.2).bind fun x7 =>
    (fX0_kindOf x7 u1 q3.2).bind fun q9 =>
    some (q9.1, q9.2)
    else if u2 = 1 then
    (gR 6 a 1 q3.2).bind fun x12 =>
    (fX0_worthOf x12 u1 q3.2).bind fun q14 =>
    some (q14.1, q14.2)
    else if u2 = 2 then
    (gR 6 a 1 q3.2).bind fun x17 =>
    (fX0_placeOf x17 u1 q3.2).bind fun q19 =>
    some (q19.1, q19.2)
    else if u2 = 3 then
    (gR 6 a 1 q3.2).bind fun x22 =>
    (fX0_lies x22 u1 q3.2).bind fun q24 =>
    (if q24.1 = 0 then
    some ((-4), q24.2)
    else
    (gR 6 a 1 q24.2).bind fun x27 =>
    (fX0_depthOf x27 u1 q24.2).bind fun q29 =>
    some (q29.1, q29.2))
    else if u2 = 4 then
    (gR 6 a 1 q3.2).bind fun x32 =>
    (fX0_lies x32 u1 q3.2).bind fun q34 =>
    (if q34.1 = 0 then
    some ((-4), q34.2)
    else
    (gR 6 a 1 q34.2).bind fun x37 =>
    (fX0_needOf x37 u1 q34.2).bind fun q39 =>
    some (q39.1, q39.2))
    else some ((-1), q3.2))))
set_option maxRecDepth 20000 in
theorem tX6_hour {G : Gm} {l : Launch} {r : Int32 × Mu} (a : Nat) (u1 : Int32) (u2 : Int32) (μ : Mu) (hf : fX6_hour a u1 u2 μ = some r) : Mt G l yX6_hour cX6_hour 3 (some .int) (2) 0 0 [.ref (gB G + a), .int u1, .int u2] μ (some (.int r.1)) r.2 := by
  rw [fX6_hour] at hf
  have hf := grd_v hf
  refine Mt.of (by decide) (Nat.le_of_ble_eq_true rfl) (fun p e s m args below meth c => ?_)
  show LX6_hour G p l e s m args below meth c r 0 [(0, .ref (gB G + a)), (1, .int u1), (2, .int u2)] [] μ
  refine x_aload_n 0 dX6_hour_0 rfl ?_
  obtain ⟨x1, h2, hf⟩ := bnd hf
  refine x_getR wF_X6_19 (by decide) (by decide) rfl h2 dX6_hour_1 ?_
  refine x_iload_n 1 dX6_hour_4 rfl ?_
  obtain ⟨q3, h4, hf⟩ := bnd hf
  refine x_callVi (rest := []) [.int u1] (tX0_hasHour x1 u1 μ h4) wY_X0_hasHour wI_X0_hasHour wS_X0_hasHour wL_X6_114 (grd_p h4) (by decide) rfl rfl (Nat.le_of_ble_eq_true rfl) ⟨Nat.le_of_ble_eq_true rfl, Nat.le_of_ble_eq_true rfl⟩ ⟨Nat.le_refl _, Nat.le_refl _⟩ dX6_hour_5 ?_
  refine x_if_ne 13 dX6_hour_8 rfl (fun c5 => ?_) (fun c5 => ?_)
  · rw [if_neg c5] at hf
    refine x_iload_n 2 dX6_hour_13 rfl ?_
    by_cases c6 : u2 = 0
    · rw [if_pos c6] at hf
      refine x_tableIn 48 dX6_hour_14 (by rw [c6]; decide) (by rw [c6]; decide) (by rw [c6]; rfl) rfl ?_
      refine x_aload_n 0 dX6_hour_48 rfl ?_
      obtain ⟨x7, h8, hf⟩ := bnd hf
      refine x_getR wF_X6_19 (by decide) (by decide) rfl h8 dX6_hour_49 ?_
      refine x_iload_n 1 dX6_hour_52 rfl ?_
      obtain ⟨q9, h10, hf⟩ := bnd hf
      refine x_callVi (rest := []) [.int u1] (tX0_kindOf x7 u1 q3.2 h10) wY_X0_kindOf wI_X0_kindOf wS_X0_kindOf wL_X6_117 (grd_p h10) (by decide) rfl rfl (Nat.le_of_ble_eq_true rfl) ⟨Nat.le_of_ble_eq_true rfl, Nat.le_of_ble_eq_true rfl⟩ ⟨Nat.le_refl _, Nat.le_refl _⟩ dX6_hour_53 ?_
      exact y_iret rfl rfl rfl hf dX6_hour_56
    rw [if_neg c6] at hf
    by_cases c11 : u2 = 1
    · rw [if_pos c11] at hf
      refine x_tableIn 57 dX6_hour_14 (by rw [c11]; decide) (by rw [c11]; decide) (by rw [c11]; rfl) rfl ?_
      refine x_aload_n 0 dX6_hour_57 rfl ?_
      obtain ⟨x12, h13, hf⟩ := bnd hf
      refine x_getR wF_X6_19 (by decide) (by decide) rfl h13 dX6_hour_58 ?_
      refine x_iload_n 1 dX6_hour_61 rfl ?_
      obtain ⟨q14, h15, hf⟩ := bnd hf
      refine x_callVi (rest := []) [.int u1] (tX0_worthOf x12 u1 q3.2 h15) wY_X0_worthOf wI_X0_worthOf wS_X0_worthOf wL_X6_120 (grd_p h15) (by decide) rfl rfl (Nat.le_of_ble_eq_true rfl) ⟨Nat.le_of_ble_eq_true rfl, Nat.le_of_ble_eq_true rfl⟩ ⟨Nat.le_refl _, Nat.le_refl _⟩ dX6_hour_62 ?_
      exact y_iret rfl rfl rfl hf dX6_hour_65
    rw [if_neg c11] at hf
    by_cases c16 : u2 = 2
    · rw [if_pos c16] at hf
      refine x_tableIn 66 dX6_hour_14 (by rw [c16]; decide) (by rw [c16]; decide) (by rw [c16]; rfl) rfl ?_
      refine x_aload_n 0 dX6_hour_66 rfl ?_
      obtain ⟨x17, h18, hf⟩ := bnd hf
      refine x_getR wF_X6_19 (by decide) (by decide) rfl h18 dX6_hour_67 ?_
      refine x_iload_n 1 dX6_hour_70 rfl ?_
      obtain ⟨q19, h20, hf⟩ := bnd hf
      refine x_callVi (rest := []) [.int u1] (tX0_placeOf x17 u1 q3.2 h20) wY_X0_placeOf wI_X0_placeOf wS_X0_placeOf wL_X6_123 (grd_p h20) (by decide) rfl rfl (Nat.le_of_ble_eq_true rfl) ⟨Nat.le_of_ble_eq_true rfl, Nat.le_of_ble_eq_true rfl⟩ ⟨Nat.le_refl _, Nat.le_refl _⟩ dX6_hour_71 ?_
      exact y_iret rfl rfl rfl hf dX6_hour_74
    rw [if_neg c16] at hf
    by_cases c21 : u2 = 3
    · rw [if_pos c21] at hf
      refine x_tableIn 75 dX6_hour_14 (by rw [c21]; decide) (by rw [c21]; decide) (by rw [c21]; rfl) rfl ?_
      refine x_aload_n 0 dX6_hour_75 rfl ?_
      obtain ⟨x22, h23, hf⟩ := bnd hf
      refine x_getR wF_X6_19 (by decide) (by decide) rfl h23 dX6_hour_76 ?_
      refine x_iload_n 1 dX6_hour_79 rfl ?_
      obtain ⟨q24, h25, hf⟩ := bnd hf
      refine x_callVi (rest := []) [.int u1] (tX0_lies x22 u1 q3.2 h25) wY_X0_lies wI_X0_lies wS_X0_lies wL_X6_126 (grd_p h25) (by decide) rfl rfl (Nat.le_of_ble_eq_true rfl) ⟨Nat.le_of_ble_eq_true rfl, Nat.le_of_ble_eq_true rfl⟩ ⟨Nat.le_refl _, Nat.le_refl _⟩ dX6_hour_80 ?_
      refine x_if_eq 97 dX6_hour_83 rfl (fun c26 => ?_) (fun c26 => ?_)
      · rw [if_pos c26] at hf
        refine x_bipush (-4) dX6_hour_97 (by decide) ?_
        exact y_iret rfl rfl rfl hf dX6_hour_99
      · rw [if_neg c26] at hf
        refine x_aload_n 0 dX6_hour_86 rfl ?_
        obtain ⟨x27, h28, hf⟩ := bnd hf
        refine x_getR wF_X6_19 (by decide) (by decide) rfl h28 dX6_hour_87 ?_
        refine x_iload_n 1 dX6_hour_90 rfl ?_
        obtain ⟨q29, h30, hf⟩ := bnd hf
        refine x_callVi (rest := []) [.int u1] (tX0_depthOf x27 u1 q24.2 h30) wY_X0_depthOf wI_X0_depthOf wS_X0_depthOf wL_X6_129 (grd_p h30) (by decide) rfl rfl (Nat.le_of_ble_eq_true rfl) ⟨Nat.le_of_ble_eq_true rfl, Nat.le_of_ble_eq_true rfl⟩ ⟨Nat.le_refl _, Nat.le_refl _⟩ dX6_hour_91 ?_
        refine x_goto 99 dX6_hour_94 rfl ?_
        exact y_iret rfl rfl rfl hf dX6_hour_99
    rw [if_neg c21] at hf
    by_cases c31 : u2 = 4
    · rw [if_pos c31] at hf
      refine x_tableIn 100 dX6_hour_14 (by rw [c31]; decide) (by rw [c31]; decide) (by rw [c31]; rfl) rfl ?_
      refine x_aload_n 0 dX6_hour_100 rfl ?_
      obtain ⟨x32, h33, hf⟩ := bnd hf
      refine x_getR wF_X6_19 (by decide) (by decide) rfl h33 dX6_hour_101 ?_
      refine x_iload_n 1 dX6_hour_104 rfl ?_
      obtain ⟨q34, h35, hf⟩ := bnd hf
      refine x_callVi (rest := []) [.int u1] (tX0_lies x32 u1 q3.2 h35) wY_X0_lies wI_X0_lies wS_X0_lies wL_X6_126 (grd_p h35) (by decide) rfl rfl (Nat.le_of_ble_eq_true rfl) ⟨Nat.le_of_ble_eq_true rfl, Nat.le_of_ble_eq_true rfl⟩ ⟨Nat.le_refl _, Nat.le_refl _⟩ dX6_hour_105 ?_
      refine x_if_eq 122 dX6_hour_108 rfl (fun c36 => ?_) (fun c36 => ?_)
      · rw [if_pos c36] at hf
        refine x_bipush (-4) dX6_hour_122 (by decide) ?_
        exact y_iret rfl rfl rfl hf dX6_hour_124
      · rw [if_neg c36] at hf
        refine x_aload_n 0 dX6_hour_111 rfl ?_
        obtain ⟨x37, h38, hf⟩ := bnd hf
        refine x_getR wF_X6_19 (by decide) (by decide) rfl h38 dX6_hour_112 ?_
        refine x_iload_n 1 dX6_hour_115 rfl ?_
        obtain ⟨q39, h40, hf⟩ := bnd hf
        refine x_callVi (rest := []) [.int u1] (tX0_needOf x37 u1 q34.2 h40) wY_X0_needOf wI_X0_needOf wS_X0_needOf wL_X6_132 (grd_p h40) (by decide) rfl rfl (Nat.le_of_ble_eq_true rfl) ⟨Nat.le_of_ble_eq_true rfl, Nat.le_of_ble_eq_true rfl⟩ ⟨Nat.le_refl _, Nat.le_refl _⟩ dX6_hour_116 ?_
        refine x_goto 124 dX6_hour_119 rfl ?_
        exact y_iret rfl rfl rfl hf dX6_hour_124
    rw [if_neg c31] at hf
    refine x_tableOut 125 dX6_hour_14 (tsw_out 5 (by decide) (fun j hj => ?_)) rfl ?_
    · match j, hj with
      | 0, _ => exact c6
      | 1, _ => exact c11
      | 2, _ => exact c16
      | 3, _ => exact c21
      | 4, _ => exact c31
    · refine x_iconst (-1) dX6_hour_125 (by decide) ?_
      exact y_iret rfl rfl rfl hf dX6_hour_126
  · rw [if_pos c5] at hf
    refine x_iconst (-1) dX6_hour_11 (by decide) ?_
    exact y_iret rfl rfl rfl hf dX6_hour_12
abbrev LX6_fits (G : Gm) (p : Program) (l : Launch) (e : Env) (s : State) (m : MethodId) (args : Array Value) (below : List Frame) (meth : Method) (c : Code) (r : Int32 × Mu) (pc : Nat) (lv : List (Nat × Value)) (st : List Value) (μ : Mu) : Prop := Lt G p l e { frames := 4, cells := 0, slots := 0, locals := 40 * (4) } s m args below meth c cX6_fits 3 RX6 (some .int) "fits" (MQ below (Qm G (some (.int r.1)) r.2 0) args s 0 0 (fA G)) 0 0 pc lv st μ
def fX6_fits (a : Nat) (u1 : Int32) (u2 : Int32) (μ : Mu) : Option (Int32 × Mu) := grd (isO 6 a μ) ((gR 6 a 1 μ).bind fun x1 =>
    (fX0_hasHour x1 u1 μ).bind fun q3 =>
    (if q3.1 = 0 then
    some ((-1), q3.2)
    else
    (gR 6 a 1 q3.2).bind fun x6 =>
    (fX0_hasPlot x6 u2 q3.2).bind fun q8 =>
    (if q8.1 = 0 then
    some ((-1), q8.2)
    else
    (gR 6 a 1 q8.2).bind fun x11 =>
    (fX0_hasRoomFor x11 u1 u2 q8.2).bind fun q13 =>
    (if q13.1 = 0 then
    some (0, q13.2)
    else
    some (1, q13.2)))))
set_option maxRecDepth 20000 in
theorem tX6_fits {G : Gm} {l : Launch} {r : Int32 × Mu} (a : Nat) (u1 : Int32) (u2 : Int32) (μ : Mu) (hf : fX6_fits a u1 u2 μ = some r) : Mt G l yX6_fits cX6_fits 3 (some .int) (4) 0 0 [.ref (gB G + a), .int u1, .int u2] μ (some (.int r.1)) r.2 := by
  rw [fX6_fits] at hf
  have hf := grd_v hf
  refine Mt.of (by decide) (Nat.le_of_ble_eq_true rfl) (fun p e s m args below meth c => ?_)
  show LX6_fits G p l e s m args below meth c r 0 [(0, .ref (gB G + a)), (1, .int u1), (2, .int u2)] [] μ
  refine x_aload_n 0 dX6_fits_0 rfl ?_
  obtain ⟨x1, h2, hf⟩ := bnd hf
  refine x_getR wF_X6_19 (by decide) (by decide) rfl h2 dX6_fits_1 ?_
  refine x_iload_n 1 dX6_fits_4 rfl ?_
  obtain ⟨q3, h4, hf⟩ := bnd hf
  refine x_callVi (rest := []) [.int u1] (tX0_hasHour x1 u1 μ h4) wY_X0_hasHour wI_X0_hasHour wS_X0_hasHour wL_X6_114 (grd_p h4) (by decide) rfl rfl (Nat.le_of_ble_eq_true rfl) ⟨Nat.le_of_ble_eq_true rfl, Nat.le_of_ble_eq_true rfl⟩ ⟨Nat.le_refl _, Nat.le_refl _⟩ dX6_fits_5 ?_
  refine x_if_eq 22 dX6_fits_8 rfl (fun c5 => ?_) (fun c5 => ?_)
  · rw [if_pos c5] at hf
    refine x_iconst (-1) dX6_fits_22 (by decide) ?_
    exact y_iret rfl rfl rfl hf dX6_fits_23
  · rw [if_neg c5] at hf
    refine x_aload_n 0 dX6_fits_11 rfl ?_
    obtain ⟨x6, h7, hf⟩ := bnd hf
    refine x_getR wF_X6_19 (by decide) (by decide) rfl h7 dX6_fits_12 ?_
    refine x_iload_n 2 dX6_fits_15 rfl ?_
    obtain ⟨q8, h9, hf⟩ := bnd hf
    refine x_callVi (rest := []) [.int u2] (tX0_hasPlot x6 u2 q3.2 h9) wY_X0_hasPlot wI_X0_hasPlot wS_X0_hasPlot wL_X6_98 (grd_p h9) (by decide) rfl rfl (Nat.le_of_ble_eq_true rfl) ⟨Nat.le_of_ble_eq_true rfl, Nat.le_of_ble_eq_true rfl⟩ ⟨Nat.le_refl _, Nat.le_refl _⟩ dX6_fits_16 ?_
    refine x_if_ne 24 dX6_fits_19 rfl (fun c10 => ?_) (fun c10 => ?_)
    · rw [if_neg c10] at hf
      refine x_aload_n 0 dX6_fits_24 rfl ?_
      obtain ⟨x11, h12, hf⟩ := bnd hf
      refine x_getR wF_X6_19 (by decide) (by decide) rfl h12 dX6_fits_25 ?_
      refine x_iload_n 1 dX6_fits_28 rfl ?_
      refine x_iload_n 2 dX6_fits_29 rfl ?_
      obtain ⟨q13, h14, hf⟩ := bnd hf
      refine x_callVi (rest := []) [.int u1, .int u2] (tX0_hasRoomFor x11 u1 u2 q8.2 h14) wY_X0_hasRoomFor wI_X0_hasRoomFor wS_X0_hasRoomFor wL_X6_135 (grd_p h14) (by decide) rfl rfl (Nat.le_of_ble_eq_true rfl) ⟨Nat.le_of_ble_eq_true rfl, Nat.le_of_ble_eq_true rfl⟩ ⟨Nat.le_refl _, Nat.le_refl _⟩ dX6_fits_30 ?_
      refine x_if_eq 40 dX6_fits_33 rfl (fun c15 => ?_) (fun c15 => ?_)
      · rw [if_pos c15] at hf
        refine x_iconst 0 dX6_fits_40 (by decide) ?_
        exact y_iret rfl rfl rfl hf dX6_fits_41
      · rw [if_neg c15] at hf
        refine x_iconst 1 dX6_fits_36 (by decide) ?_
        refine x_goto 41 dX6_fits_37 rfl ?_
        exact y_iret rfl rfl rfl hf dX6_fits_41
    · rw [if_pos c10] at hf
      refine x_iconst (-1) dX6_fits_22 (by decide) ?_
      exact y_iret rfl rfl rfl hf dX6_fits_23
abbrev LX6_pass (G : Gm) (p : Program) (l : Launch) (e : Env) (s : State) (m : MethodId) (args : Array Value) (below : List Frame) (meth : Method) (c : Code) (r : Int32 × Mu) (pc : Nat) (lv : List (Nat × Value)) (st : List Value) (μ : Mu) : Prop := Lt G p l e { frames := 3, cells := 0, slots := 0, locals := 40 * (3) } s m args below meth c cX6_pass 2 RX6 (some .int) "pass" (MQ below (Qm G (some (.int r.1)) r.2 0) args s 0 0 (fA G)) 0 0 pc lv st μ
def fX6_pass (a : Nat) (u1 : Int32) (μ : Mu) : Option (Int32 × Mu) := grd (isO 6 a μ) ((fX6_isWithin u1 1 20 μ).bind fun q1 =>
    (if q1.1 = 0 then
    some ((-1), q1.2)
    else
    (gR 6 a 1 q1.2).bind fun x4 =>
    (gI 0 x4 2 q1.2).bind fun x6 =>
    (if (x6 + u1) ≤ 999 then
    (gR 6 a 3 q1.2).bind fun x9 =>
    (gR 6 a 1 q1.2).bind fun x11 =>
    (fX4_store x9 x11 q1.2).bind fun q13 =>
    (gR 6 a 1 q13).bind fun x15 =>
    (fX0_passYears x15 u1 q13).bind fun q17 =>
    some (q17.1, q17.2)
    else
    some ((-2), q1.2))))
set_option maxRecDepth 20000 in
theorem tX6_pass {G : Gm} {l : Launch} {r : Int32 × Mu} (a : Nat) (u1 : Int32) (μ : Mu) (hf : fX6_pass a u1 μ = some r) : Mt G l yX6_pass cX6_pass 2 (some .int) (3) 0 0 [.ref (gB G + a), .int u1] μ (some (.int r.1)) r.2 := by
  rw [fX6_pass] at hf
  have hf := grd_v hf
  refine Mt.of (by decide) (Nat.le_of_ble_eq_true rfl) (fun p e s m args below meth c => ?_)
  show LX6_pass G p l e s m args below meth c r 0 [(0, .ref (gB G + a)), (1, .int u1)] [] μ
  refine x_iload_n 1 dX6_pass_0 rfl ?_
  refine x_iconst 1 dX6_pass_1 (by decide) ?_
  refine x_bipush 20 dX6_pass_2 (by decide) ?_
  obtain ⟨q1, h2, hf⟩ := bnd hf
  refine x_callSi (rest := []) [.int u1, .int 1, .int 20] (tX6_isWithin u1 1 20 μ h2) wY_X6_isWithin wT_X6_isWithin wL_X6_139 rfl (Nat.le_of_ble_eq_true rfl) ⟨Nat.le_of_ble_eq_true rfl, Nat.le_of_ble_eq_true rfl⟩ ⟨Nat.le_refl _, Nat.le_refl _⟩ dX6_pass_4 ?_
  refine x_if_ne 12 dX6_pass_7 rfl (fun c3 => ?_) (fun c3 => ?_)
  · rw [if_neg c3] at hf
    refine x_aload_n 0 dX6_pass_12 rfl ?_
    obtain ⟨x4, h5, hf⟩ := bnd hf
    refine x_getR wF_X6_19 (by decide) (by decide) rfl h5 dX6_pass_13 ?_
    obtain ⟨x6, h7, hf⟩ := bnd hf
    refine x_getI wF_X6_143 (by decide) (by decide) rfl h7 dX6_pass_16 ?_
    refine x_iload_n 1 dX6_pass_19 rfl ?_
    refine x_iadd dX6_pass_20 ?_
    refine x_sipush 999 dX6_pass_21 (by decide) ?_
    refine x_icmp_le 30 dX6_pass_24 rfl (fun c8 => ?_) (fun c8 => ?_)
    · rw [if_pos c8] at hf
      refine x_aload_n 0 dX6_pass_30 rfl ?_
      obtain ⟨x9, h10, hf⟩ := bnd hf
      refine x_getR wF_X6_31 (by decide) (by decide) rfl h10 dX6_pass_31 ?_
      refine x_aload_n 0 dX6_pass_34 rfl ?_
      obtain ⟨x11, h12, hf⟩ := bnd hf
      refine x_getR wF_X6_19 (by decide) (by decide) rfl h12 dX6_pass_35 ?_
      obtain ⟨q13, h14, hf⟩ := bnd hf
      refine x_callVv (rest := []) [.ref (gB G + x11)] (tX4_store x9 x11 q1.2 h14) wY_X4_store wI_X4_store wS_X4_store wL_X6_146 (grd_p h14) (by decide) rfl rfl (Nat.le_of_ble_eq_true rfl) ⟨Nat.le_of_ble_eq_true rfl, Nat.le_of_ble_eq_true rfl⟩ ⟨Nat.le_refl _, Nat.le_refl _⟩ dX6_pass_38 ?_
      refine x_aload_n 0 dX6_pass_41 rfl ?_
      obtain ⟨x15, h16, hf⟩ := bnd hf
      refine x_getR wF_X6_19 (by decide) (by decide) rfl h16 dX6_pass_42 ?_
      refine x_iload_n 1 dX6_pass_45 rfl ?_
      obtain ⟨q17, h18, hf⟩ := bnd hf
      refine x_callVi (rest := []) [.int u1] (tX0_passYears x15 u1 q13 h18) wY_X0_passYears wI_X0_passYears wS_X0_passYears wL_X6_149 (grd_p h18) (by decide) rfl rfl (Nat.le_of_ble_eq_true rfl) ⟨Nat.le_of_ble_eq_true rfl, Nat.le_of_ble_eq_true rfl⟩ ⟨Nat.le_refl _, Nat.le_refl _⟩ dX6_pass_46 ?_
      exact y_iret rfl rfl rfl hf dX6_pass_49
    · rw [if_neg c8] at hf
      refine x_bipush (-2) dX6_pass_27 (by decide) ?_
      exact y_iret rfl rfl rfl hf dX6_pass_29
  · rw [if_pos c3] at hf
    refine x_iconst (-1) dX6_pass_10 (by decide) ?_
    exact y_iret rfl rfl rfl hf dX6_pass_11
abbrev LX6_put (G : Gm) (p : Program) (l : Launch) (e : Env) (s : State) (m : MethodId) (args : Array Value) (below : List Frame) (meth : Method) (c : Code) (r : Int32 × Mu) (pc : Nat) (lv : List (Nat × Value)) (st : List Value) (μ : Mu) : Prop := Lt G p l e { frames := 5, cells := 0, slots := 0, locals := 40 * (5) } s m args below meth c cX6_put 3 RX6 (some .int) "put" (MQ below (Qm G (some (.int r.1)) r.2 0) args s 0 0 (fA G)) 0 0 pc lv st μ
def fX6_put (a : Nat) (u1 : Int32) (u2 : Int32) (μ : Mu) : Option (Int32 × Mu) := grd (isO 6 a μ) ((gR 6 a 1 μ).bind fun x1 =>
    (fX0_hasHour x1 u1 μ).bind fun q3 =>
    (if q3.1 = 0 then
    some ((-1), q3.2)
    else
    (gR 6 a 1 q3.2).bind fun x6 =>
    (fX0_hasPlot x6 u2 q3.2).bind fun q8 =>
    (if q8.1 = 0 then
    some ((-1), q8.2)
    else
    (gR 6 a 1 q8.2).bind fun x11 =>
    (fX0_canBePutIn x11 u1 u2 q8.2).bind fun q13 =>
    (if q13.1 = 0 then
    some ((-2), q13.2)
    else
    (gR 6 a 3 q13.2).bind fun x16 =>
    (gR 6 a 1 q13.2).bind fun x18 =>
    (fX4_store x16 x18 q13.2).bind fun q20 =>
    (gR 6 a 1 q20).bind fun x22 =>
    (fX0_setOnTop x22 u1 u2 q20).bind fun q24 =>
    (gR 6 a 1 q24).bind fun x26 =>
    (fX0_freeIn x26 u2 q24).bind fun q28 =>
    some (q28.1, q28.2)))))
set_option maxRecDepth 20000 in
theorem tX6_put {G : Gm} {l : Launch} {r : Int32 × Mu} (a : Nat) (u1 : Int32) (u2 : Int32) (μ : Mu) (hf : fX6_put a u1 u2 μ = some r) : Mt G l yX6_put cX6_put 3 (some .int) (5) 0 0 [.ref (gB G + a), .int u1, .int u2] μ (some (.int r.1)) r.2 := by
  rw [fX6_put] at hf
  have hf := grd_v hf
  refine Mt.of (by decide) (Nat.le_of_ble_eq_true rfl) (fun p e s m args below meth c => ?_)
  show LX6_put G p l e s m args below meth c r 0 [(0, .ref (gB G + a)), (1, .int u1), (2, .int u2)] [] μ
  refine x_aload_n 0 dX6_put_0 rfl ?_
  obtain ⟨x1, h2, hf⟩ := bnd hf
  refine x_getR wF_X6_19 (by decide) (by decide) rfl h2 dX6_put_1 ?_
  refine x_iload_n 1 dX6_put_4 rfl ?_
  obtain ⟨q3, h4, hf⟩ := bnd hf
  refine x_callVi (rest := []) [.int u1] (tX0_hasHour x1 u1 μ h4) wY_X0_hasHour wI_X0_hasHour wS_X0_hasHour wL_X6_114 (grd_p h4) (by decide) rfl rfl (Nat.le_of_ble_eq_true rfl) ⟨Nat.le_of_ble_eq_true rfl, Nat.le_of_ble_eq_true rfl⟩ ⟨Nat.le_refl _, Nat.le_refl _⟩ dX6_put_5 ?_
  refine x_if_eq 22 dX6_put_8 rfl (fun c5 => ?_) (fun c5 => ?_)
  · rw [if_pos c5] at hf
    refine x_iconst (-1) dX6_put_22 (by decide) ?_
    exact y_iret rfl rfl rfl hf dX6_put_23
  · rw [if_neg c5] at hf
    refine x_aload_n 0 dX6_put_11 rfl ?_
    obtain ⟨x6, h7, hf⟩ := bnd hf
    refine x_getR wF_X6_19 (by decide) (by decide) rfl h7 dX6_put_12 ?_
    refine x_iload_n 2 dX6_put_15 rfl ?_
    obtain ⟨q8, h9, hf⟩ := bnd hf
    refine x_callVi (rest := []) [.int u2] (tX0_hasPlot x6 u2 q3.2 h9) wY_X0_hasPlot wI_X0_hasPlot wS_X0_hasPlot wL_X6_98 (grd_p h9) (by decide) rfl rfl (Nat.le_of_ble_eq_true rfl) ⟨Nat.le_of_ble_eq_true rfl, Nat.le_of_ble_eq_true rfl⟩ ⟨Nat.le_refl _, Nat.le_refl _⟩ dX6_put_16 ?_
    refine x_if_ne 24 dX6_put_19 rfl (fun c10 => ?_) (fun c10 => ?_)
    · rw [if_neg c10] at hf
      refine x_aload_n 0 dX6_put_24 rfl ?_
      obtain ⟨x11, h12, hf⟩ := bnd hf
      refine x_getR wF_X6_19 (by decide) (by decide) rfl h12 dX6_put_25 ?_
      refine x_iload_n 1 dX6_put_28 rfl ?_
      refine x_iload_n 2 dX6_put_29 rfl ?_
      obtain ⟨q13, h14, hf⟩ := bnd hf
      refine x_callVi (rest := []) [.int u1, .int u2] (tX0_canBePutIn x11 u1 u2 q8.2 h14) wY_X0_canBePutIn wI_X0_canBePutIn wS_X0_canBePutIn wL_X6_152 (grd_p h14) (by decide) rfl rfl (Nat.le_of_ble_eq_true rfl) ⟨Nat.le_of_ble_eq_true rfl, Nat.le_of_ble_eq_true rfl⟩ ⟨Nat.le_refl _, Nat.le_refl _⟩ dX6_put_30 ?_
      refine x_if_ne 39 dX6_put_33 rfl (fun c15 => ?_) (fun c15 => ?_)
      · rw [if_neg c15] at hf
        refine x_aload_n 0 dX6_put_39 rfl ?_
        obtain ⟨x16, h17, hf⟩ := bnd hf
        refine x_getR wF_X6_31 (by decide) (by decide) rfl h17 dX6_put_40 ?_
        refine x_aload_n 0 dX6_put_43 rfl ?_
        obtain ⟨x18, h19, hf⟩ := bnd hf
        refine x_getR wF_X6_19 (by decide) (by decide) rfl h19 dX6_put_44 ?_
        obtain ⟨q20, h21, hf⟩ := bnd hf
        refine x_callVv (rest := []) [.ref (gB G + x18)] (tX4_store x16 x18 q13.2 h21) wY_X4_store wI_X4_store wS_X4_store wL_X6_146 (grd_p h21) (by decide) rfl rfl (Nat.le_of_ble_eq_true rfl) ⟨Nat.le_of_ble_eq_true rfl, Nat.le_of_ble_eq_true rfl⟩ ⟨Nat.le_refl _, Nat.le_refl _⟩ dX6_put_47 ?_
        refine x_aload_n 0 dX6_put_50 rfl ?_
        obtain ⟨x22, h23, hf⟩ := bnd hf
        refine x_getR wF_X6_19 (by decide) (by decide) rfl h23 dX6_put_51 ?_
        refine x_iload_n 1 dX6_put_54 rfl ?_
        refine x_iload_n 2 dX6_put_55 rfl ?_
        obtain ⟨q24, h25, hf⟩ := bnd hf
        refine x_callVv (rest := []) [.int u1, .int u2] (tX0_setOnTop x22 u1 u2 q20 h25) wY_X0_setOnTop wI_X0_setOnTop wS_X0_setOnTop wL_X6_155 (grd_p h25) (by decide) rfl rfl (Nat.le_of_ble_eq_true rfl) ⟨Nat.le_of_ble_eq_true rfl, Nat.le_of_ble_eq_true rfl⟩ ⟨Nat.le_refl _, Nat.le_refl _⟩ dX6_put_56 ?_
        refine x_aload_n 0 dX6_put_59 rfl ?_
        obtain ⟨x26, h27, hf⟩ := bnd hf
        refine x_getR wF_X6_19 (by decide) (by decide) rfl h27 dX6_put_60 ?_
        refine x_iload_n 2 dX6_put_63 rfl ?_
        obtain ⟨q28, h29, hf⟩ := bnd hf
        refine x_callVi (rest := []) [.int u2] (tX0_freeIn x26 u2 q24 h29) wY_X0_freeIn wI_X0_freeIn wS_X0_freeIn wL_X6_105 (grd_p h29) (by decide) rfl rfl (Nat.le_of_ble_eq_true rfl) ⟨Nat.le_of_ble_eq_true rfl, Nat.le_of_ble_eq_true rfl⟩ ⟨Nat.le_refl _, Nat.le_refl _⟩ dX6_put_64 ?_
        exact y_iret rfl rfl rfl hf dX6_put_67
      · rw [if_pos c15] at hf
        refine x_bipush (-2) dX6_put_36 (by decide) ?_
        exact y_iret rfl rfl rfl hf dX6_put_38
    · rw [if_pos c10] at hf
      refine x_iconst (-1) dX6_put_22 (by decide) ?_
      exact y_iret rfl rfl rfl hf dX6_put_23
abbrev LX6_up (G : Gm) (p : Program) (l : Launch) (e : Env) (s : State) (m : MethodId) (args : Array Value) (below : List Frame) (meth : Method) (c : Code) (r : Int32 × Mu) (pc : Nat) (lv : List (Nat × Value)) (st : List Value) (μ : Mu) : Prop := Lt G p l e { frames := 4, cells := 0, slots := 0, locals := 40 * (4) } s m args below meth c cX6_up 2 RX6 (some .int) "up" (MQ below (Qm G (some (.int r.1)) r.2 0) args s 0 0 (fA G)) 0 0 pc lv st μ
def fX6_up (a : Nat) (u1 : Int32) (μ : Mu) : Option (Int32 × Mu) := grd (isO 6 a μ) ((gR 6 a 1 μ).bind fun x1 =>
    (fX0_hasHour x1 u1 μ).bind fun q3 =>
    (if q3.1 = 0 then
    some ((-1), q3.2)
    else
    (gR 6 a 1 q3.2).bind fun x6 =>
    (fX0_lies x6 u1 q3.2).bind fun q8 =>
    (if q8.1 = 0 then
    some ((-2), q8.2)
    else
    (gR 6 a 3 q8.2).bind fun x11 =>
    (gR 6 a 1 q8.2).bind fun x13 =>
    (fX4_store x11 x13 q8.2).bind fun q15 =>
    (gR 6 a 1 q15).bind fun x17 =>
    (fX0_takeUp x17 u1 q15).bind fun q19 =>
    some (q19.1, q19.2))))
set_option maxRecDepth 20000 in
theorem tX6_up {G : Gm} {l : Launch} {r : Int32 × Mu} (a : Nat) (u1 : Int32) (μ : Mu) (hf : fX6_up a u1 μ = some r) : Mt G l yX6_up cX6_up 2 (some .int) (4) 0 0 [.ref (gB G + a), .int u1] μ (some (.int r.1)) r.2 := by
  rw [fX6_up] at hf
  have hf := grd_v hf
  refine Mt.of (by decide) (Nat.le_of_ble_eq_true rfl) (fun p e s m args below meth c => ?_)
  show LX6_up G p l e s m args below meth c r 0 [(0, .ref (gB G + a)), (1, .int u1)] [] μ
  refine x_aload_n 0 dX6_up_0 rfl ?_
  obtain ⟨x1, h2, hf⟩ := bnd hf
  refine x_getR wF_X6_19 (by decide) (by decide) rfl h2 dX6_up_1 ?_
  refine x_iload_n 1 dX6_up_4 rfl ?_
  obtain ⟨q3, h4, hf⟩ := bnd hf
  refine x_callVi (rest := []) [.int u1] (tX0_hasHour x1 u1 μ h4) wY_X0_hasHour wI_X0_hasHour wS_X0_hasHour wL_X6_114 (grd_p h4) (by decide) rfl rfl (Nat.le_of_ble_eq_true rfl) ⟨Nat.le_of_ble_eq_true rfl, Nat.le_of_ble_eq_true rfl⟩ ⟨Nat.le_refl _, Nat.le_refl _⟩ dX6_up_5 ?_
  refine x_if_ne 13 dX6_up_8 rfl (fun c5 => ?_) (fun c5 => ?_)
  · rw [if_neg c5] at hf
    refine x_aload_n 0 dX6_up_13 rfl ?_
    obtain ⟨x6, h7, hf⟩ := bnd hf
    refine x_getR wF_X6_19 (by decide) (by decide) rfl h7 dX6_up_14 ?_
    refine x_iload_n 1 dX6_up_17 rfl ?_
    obtain ⟨q8, h9, hf⟩ := bnd hf
    refine x_callVi (rest := []) [.int u1] (tX0_lies x6 u1 q3.2 h9) wY_X0_lies wI_X0_lies wS_X0_lies wL_X6_126 (grd_p h9) (by decide) rfl rfl (Nat.le_of_ble_eq_true rfl) ⟨Nat.le_of_ble_eq_true rfl, Nat.le_of_ble_eq_true rfl⟩ ⟨Nat.le_refl _, Nat.le_refl _⟩ dX6_up_18 ?_
    refine x_if_ne 27 dX6_up_21 rfl (fun c10 => ?_) (fun c10 => ?_)
    · rw [if_neg c10] at hf
      refine x_aload_n 0 dX6_up_27 rfl ?_
      obtain ⟨x11, h12, hf⟩ := bnd hf
      refine x_getR wF_X6_31 (by decide) (by decide) rfl h12 dX6_up_28 ?_
      refine x_aload_n 0 dX6_up_31 rfl ?_
      obtain ⟨x13, h14, hf⟩ := bnd hf
      refine x_getR wF_X6_19 (by decide) (by decide) rfl h14 dX6_up_32 ?_
      obtain ⟨q15, h16, hf⟩ := bnd hf
      refine x_callVv (rest := []) [.ref (gB G + x13)] (tX4_store x11 x13 q8.2 h16) wY_X4_store wI_X4_store wS_X4_store wL_X6_146 (grd_p h16) (by decide) rfl rfl (Nat.le_of_ble_eq_true rfl) ⟨Nat.le_of_ble_eq_true rfl, Nat.le_of_ble_eq_true rfl⟩ ⟨Nat.le_refl _, Nat.le_refl _⟩ dX6_up_35 ?_
      refine x_aload_n 0 dX6_up_38 rfl ?_
      obtain ⟨x17, h18, hf⟩ := bnd hf
      refine x_getR wF_X6_19 (by decide) (by decide) rfl h18 dX6_up_39 ?_
      refine x_iload_n 1 dX6_up_42 rfl ?_
      obtain ⟨q19, h20, hf⟩ := bnd hf
      refine x_callVi (rest := []) [.int u1] (tX0_takeUp x17 u1 q15 h20) wY_X0_takeUp wI_X0_takeUp wS_X0_takeUp wL_X6_159 (grd_p h20) (by decide) rfl rfl (Nat.le_of_ble_eq_true rfl) ⟨Nat.le_of_ble_eq_true rfl, Nat.le_of_ble_eq_true rfl⟩ ⟨Nat.le_refl _, Nat.le_refl _⟩ dX6_up_43 ?_
      exact y_iret rfl rfl rfl hf dX6_up_46
    · rw [if_pos c10] at hf
      refine x_bipush (-2) dX6_up_24 (by decide) ?_
      exact y_iret rfl rfl rfl hf dX6_up_26
  · rw [if_pos c5] at hf
    refine x_iconst (-1) dX6_up_11 (by decide) ?_
    exact y_iret rfl rfl rfl hf dX6_up_12
abbrev LX6_dig (G : Gm) (p : Program) (l : Launch) (e : Env) (s : State) (m : MethodId) (args : Array Value) (below : List Frame) (meth : Method) (c : Code) (r : Int32 × Mu) (pc : Nat) (lv : List (Nat × Value)) (st : List Value) (μ : Mu) : Prop := Lt G p l e { frames := 2, cells := 0, slots := 0, locals := 40 * (2) } s m args below meth c cX6_dig 2 RX6 (some .int) "dig" (MQ below (Qm G (some (.int r.1)) r.2 0) args s 0 0 (fA G)) 0 0 pc lv st μ
def fX6_dig (a : Nat) (u1 : Int32) (μ : Mu) : Option (Int32 × Mu) := grd (isO 6 a μ) ((gR 6 a 1 μ).bind fun x1 =>
    (fX0_hasPlot x1 u1 μ).bind fun q3 =>
    (if q3.1 = 0 then
    some ((-1), q3.2)
    else
    (gR 6 a 1 q3.2).bind fun x6 =>
    (fX0_roomOf x6 u1 q3.2).bind fun q8 =>
    (if q8.1 < 9 then
    (gR 6 a 3 q8.2).bind fun x11 =>
    (gR 6 a 1 q8.2).bind fun x13 =>
    (fX4_store x11 x13 q8.2).bind fun q15 =>
    (gR 6 a 1 q15).bind fun x17 =>
    (fX0_deepen x17 u1 q15).bind fun q19 =>
    (gR 6 a 1 q19).bind fun x21 =>
    (fX0_roomOf x21 u1 q19).bind fun q23 =>
    some (q23.1, q23.2)
    else
    some ((-2), q8.2))))
set_option maxRecDepth 20000 in
theorem tX6_dig {G : Gm} {l : Launch} {r : Int32 × Mu} (a : Nat) (u1 : Int32) (μ : Mu) (hf : fX6_dig a u1 μ = some r) : Mt G l yX6_dig cX6_dig 2 (some .int) (2) 0 0 [.ref (gB G + a), .int u1] μ (some (.int r.1)) r.2 := by
  rw [fX6_dig] at hf
  have hf := grd_v hf
  refine Mt.of (by decide) (Nat.le_of_ble_eq_true rfl) (fun p e s m args below meth c => ?_)
  show LX6_dig G p l e s m args below meth c r 0 [(0, .ref (gB G + a)), (1, .int u1)] [] μ
  refine x_aload_n 0 dX6_dig_0 rfl ?_
  obtain ⟨x1, h2, hf⟩ := bnd hf
  refine x_getR wF_X6_19 (by decide) (by decide) rfl h2 dX6_dig_1 ?_
  refine x_iload_n 1 dX6_dig_4 rfl ?_
  obtain ⟨q3, h4, hf⟩ := bnd hf
  refine x_callVi (rest := []) [.int u1] (tX0_hasPlot x1 u1 μ h4) wY_X0_hasPlot wI_X0_hasPlot wS_X0_hasPlot wL_X6_98 (grd_p h4) (by decide) rfl rfl (Nat.le_of_ble_eq_true rfl) ⟨Nat.le_of_ble_eq_true rfl, Nat.le_of_ble_eq_true rfl⟩ ⟨Nat.le_refl _, Nat.le_refl _⟩ dX6_dig_5 ?_
  refine x_if_ne 13 dX6_dig_8 rfl (fun c5 => ?_) (fun c5 => ?_)
  · rw [if_neg c5] at hf
    refine x_aload_n 0 dX6_dig_13 rfl ?_
    obtain ⟨x6, h7, hf⟩ := bnd hf
    refine x_getR wF_X6_19 (by decide) (by decide) rfl h7 dX6_dig_14 ?_
    refine x_iload_n 1 dX6_dig_17 rfl ?_
    obtain ⟨q8, h9, hf⟩ := bnd hf
    refine x_callVi (rest := []) [.int u1] (tX0_roomOf x6 u1 q3.2 h9) wY_X0_roomOf wI_X0_roomOf wS_X0_roomOf wL_X6_101 (grd_p h9) (by decide) rfl rfl (Nat.le_of_ble_eq_true rfl) ⟨Nat.le_of_ble_eq_true rfl, Nat.le_of_ble_eq_true rfl⟩ ⟨Nat.le_refl _, Nat.le_refl _⟩ dX6_dig_18 ?_
    refine x_bipush 9 dX6_dig_21 (by decide) ?_
    refine x_icmp_lt 29 dX6_dig_23 rfl (fun c10 => ?_) (fun c10 => ?_)
    · rw [if_pos c10] at hf
      refine x_aload_n 0 dX6_dig_29 rfl ?_
      obtain ⟨x11, h12, hf⟩ := bnd hf
      refine x_getR wF_X6_31 (by decide) (by decide) rfl h12 dX6_dig_30 ?_
      refine x_aload_n 0 dX6_dig_33 rfl ?_
      obtain ⟨x13, h14, hf⟩ := bnd hf
      refine x_getR wF_X6_19 (by decide) (by decide) rfl h14 dX6_dig_34 ?_
      obtain ⟨q15, h16, hf⟩ := bnd hf
      refine x_callVv (rest := []) [.ref (gB G + x13)] (tX4_store x11 x13 q8.2 h16) wY_X4_store wI_X4_store wS_X4_store wL_X6_146 (grd_p h16) (by decide) rfl rfl (Nat.le_of_ble_eq_true rfl) ⟨Nat.le_of_ble_eq_true rfl, Nat.le_of_ble_eq_true rfl⟩ ⟨Nat.le_refl _, Nat.le_refl _⟩ dX6_dig_37 ?_
      refine x_aload_n 0 dX6_dig_40 rfl ?_
      obtain ⟨x17, h18, hf⟩ := bnd hf
      refine x_getR wF_X6_19 (by decide) (by decide) rfl h18 dX6_dig_41 ?_
      refine x_iload_n 1 dX6_dig_44 rfl ?_
      obtain ⟨q19, h20, hf⟩ := bnd hf
      refine x_callVv (rest := []) [.int u1] (tX0_deepen x17 u1 q15 h20) wY_X0_deepen wI_X0_deepen wS_X0_deepen wL_X6_162 (grd_p h20) (by decide) rfl rfl (Nat.le_of_ble_eq_true rfl) ⟨Nat.le_of_ble_eq_true rfl, Nat.le_of_ble_eq_true rfl⟩ ⟨Nat.le_refl _, Nat.le_refl _⟩ dX6_dig_45 ?_
      refine x_aload_n 0 dX6_dig_48 rfl ?_
      obtain ⟨x21, h22, hf⟩ := bnd hf
      refine x_getR wF_X6_19 (by decide) (by decide) rfl h22 dX6_dig_49 ?_
      refine x_iload_n 1 dX6_dig_52 rfl ?_
      obtain ⟨q23, h24, hf⟩ := bnd hf
      refine x_callVi (rest := []) [.int u1] (tX0_roomOf x21 u1 q19 h24) wY_X0_roomOf wI_X0_roomOf wS_X0_roomOf wL_X6_101 (grd_p h24) (by decide) rfl rfl (Nat.le_of_ble_eq_true rfl) ⟨Nat.le_of_ble_eq_true rfl, Nat.le_of_ble_eq_true rfl⟩ ⟨Nat.le_refl _, Nat.le_refl _⟩ dX6_dig_53 ?_
      exact y_iret rfl rfl rfl hf dX6_dig_56
    · rw [if_neg c10] at hf
      refine x_bipush (-2) dX6_dig_26 (by decide) ?_
      exact y_iret rfl rfl rfl hf dX6_dig_28
  · rw [if_pos c5] at hf
    refine x_iconst (-1) dX6_dig_11 (by decide) ?_
    exact y_iret rfl rfl rfl hf dX6_dig_12
abbrev LX6_undo (G : Gm) (p : Program) (l : Launch) (e : Env) (s : State) (m : MethodId) (args : Array Value) (below : List Frame) (meth : Method) (c : Code) (r : Int32 × Mu) (pc : Nat) (lv : List (Nat × Value)) (st : List Value) (μ : Mu) : Prop := Lt G p l e { frames := 2, cells := 0, slots := 0, locals := 40 * (2) } s m args below meth c cX6_undo 1 RX6 (some .int) "undo" (MQ below (Qm G (some (.int r.1)) r.2 0) args s 0 0 (fA G)) 0 0 pc lv st μ
def fX6_undo (a : Nat) (μ : Mu) : Option (Int32 × Mu) := grd (isO 6 a μ) ((gR 6 a 3 μ).bind fun x1 =>
    (gR 6 a 1 μ).bind fun x3 =>
    (fX4_fetchInto x1 x3 μ).bind fun q5 =>
    (if q5.1 = 0 then
    some ((-2), q5.2)
    else
    (gR 6 a 3 q5.2).bind fun x8 =>
    (gI 4 x8 0 q5.2).bind fun x10 =>
    some (x10, q5.2)))
set_option maxRecDepth 20000 in
theorem tX6_undo {G : Gm} {l : Launch} {r : Int32 × Mu} (a : Nat) (μ : Mu) (hf : fX6_undo a μ = some r) : Mt G l yX6_undo cX6_undo 1 (some .int) (2) 0 0 [.ref (gB G + a)] μ (some (.int r.1)) r.2 := by
  rw [fX6_undo] at hf
  have hf := grd_v hf
  refine Mt.of (by decide) (Nat.le_of_ble_eq_true rfl) (fun p e s m args below meth c => ?_)
  show LX6_undo G p l e s m args below meth c r 0 [(0, .ref (gB G + a))] [] μ
  refine x_aload_n 0 dX6_undo_0 rfl ?_
  obtain ⟨x1, h2, hf⟩ := bnd hf
  refine x_getR wF_X6_31 (by decide) (by decide) rfl h2 dX6_undo_1 ?_
  refine x_aload_n 0 dX6_undo_4 rfl ?_
  obtain ⟨x3, h4, hf⟩ := bnd hf
  refine x_getR wF_X6_19 (by decide) (by decide) rfl h4 dX6_undo_5 ?_
  obtain ⟨q5, h6, hf⟩ := bnd hf
  refine x_callVi (rest := []) [.ref (gB G + x3)] (tX4_fetchInto x1 x3 μ h6) wY_X4_fetchInto wI_X4_fetchInto wS_X4_fetchInto wL_X6_165 (grd_p h6) (by decide) rfl rfl (Nat.le_of_ble_eq_true rfl) ⟨Nat.le_of_ble_eq_true rfl, Nat.le_of_ble_eq_true rfl⟩ ⟨Nat.le_refl _, Nat.le_refl _⟩ dX6_undo_8 ?_
  refine x_if_eq 24 dX6_undo_11 rfl (fun c7 => ?_) (fun c7 => ?_)
  · rw [if_pos c7] at hf
    refine x_bipush (-2) dX6_undo_24 (by decide) ?_
    exact y_iret rfl rfl rfl hf dX6_undo_26
  · rw [if_neg c7] at hf
    refine x_aload_n 0 dX6_undo_14 rfl ?_
    obtain ⟨x8, h9, hf⟩ := bnd hf
    refine x_getR wF_X6_31 (by decide) (by decide) rfl h9 dX6_undo_15 ?_
    obtain ⟨x10, h11, hf⟩ := bnd hf
    refine x_getI wF_X6_169 (by decide) (by decide) rfl h11 dX6_undo_18 ?_
    refine x_goto 26 dX6_undo_21 rfl ?_
    exact y_iret rfl rfl rfl hf dX6_undo_26
abbrev LX6_out (G : Gm) (p : Program) (l : Launch) (e : Env) (s : State) (m : MethodId) (args : Array Value) (below : List Frame) (meth : Method) (c : Code) (r : Int32 × Mu) (pc : Nat) (lv : List (Nat × Value)) (st : List Value) (μ : Mu) : Prop := Lt G p l e { frames := 3, cells := 0, slots := 0, locals := 40 * (3) } s m args below meth c cX6_out 3 RX6 (some .int) "out" (MQ below (Qm G (some (.int r.1)) r.2 0) args s 0 0 (fA G)) 0 0 pc lv st μ
def fX6_out_26 : Nat → Nat → Int32 → Int32 → Mu → Option (Int32 × Mu)
  | 0, _, _, _, _ => none
  | n + 1, v0, v1, v2, μ => (if 60 < v2 then
    some ((-4), μ)
    else
    (gR 6 v0 2 μ).bind fun x13 =>
    (fX0_lies x13 v1 μ).bind fun q15 =>
    (if q15.1 = 0 then
    some (v2, q15.2)
    else
    (gR 6 v0 2 q15.2).bind fun x18 =>
    (fX0_passYears x18 1 q15.2).bind fun q20 =>
    (fX6_out_26 n) v0 v1 (v2 + 1) q20.2))
set_option maxRecDepth 20000 in
theorem tX6_out_26 {G : Gm} {p : Program} {l : Launch} {e : Env} {s : State} {m : MethodId} {args : Array Value} {below : List Frame} {meth : Method} {c : Code} {r : Int32 × Mu} : ∀ (n : Nat) (v0 : Nat) (v1 : Int32) (v2 : Int32) (μ : Mu), fX6_out_26 n v0 v1 v2 μ = some r → LX6_out G p l e s m args below meth c r 26 [(0, .ref (gB G + v0)), (1, .int v1), (2, .int v2)] [] μ := by
  intro n
  induction n with
  | zero =>
    intro v0 v1 v2 μ hf
    simp [fX6_out_26] at hf
  | succ n ih =>
    intro v0 v1 v2 μ hf
    rw [fX6_out_26] at hf
    refine x_iload_n 2 dX6_out_26 rfl ?_
    refine x_bipush 60 dX6_out_27 (by decide) ?_
    refine x_icmp_gt 60 dX6_out_29 rfl (fun c12 => ?_) (fun c12 => ?_)
    · rw [if_pos c12] at hf
      refine x_bipush (-4) dX6_out_60 (by decide) ?_
      exact y_iret rfl rfl rfl hf dX6_out_62
    · rw [if_neg c12] at hf
      refine x_aload_n 0 dX6_out_32 rfl ?_
      obtain ⟨x13, h14, hf⟩ := bnd hf
      refine x_getR wF_X6_23 (by decide) (by decide) rfl h14 dX6_out_33 ?_
      refine x_iload_n 1 dX6_out_36 rfl ?_
      obtain ⟨q15, h16, hf⟩ := bnd hf
      refine x_callVi (rest := []) [.int v1] (tX0_lies x13 v1 μ h16) wY_X0_lies wI_X0_lies wS_X0_lies wL_X6_126 (grd_p h16) (by decide) rfl rfl (Nat.le_of_ble_eq_true rfl) ⟨Nat.le_of_ble_eq_true rfl, Nat.le_of_ble_eq_true rfl⟩ ⟨Nat.le_refl _, Nat.le_refl _⟩ dX6_out_37 ?_
      refine x_if_ne 45 dX6_out_40 rfl (fun c17 => ?_) (fun c17 => ?_)
      · rw [if_neg c17] at hf
        refine x_aload_n 0 dX6_out_45 rfl ?_
        obtain ⟨x18, h19, hf⟩ := bnd hf
        refine x_getR wF_X6_23 (by decide) (by decide) rfl h19 dX6_out_46 ?_
        refine x_iconst 1 dX6_out_49 (by decide) ?_
        obtain ⟨q20, h21, hf⟩ := bnd hf
        refine x_callVi (rest := []) [.int 1] (tX0_passYears x18 1 q15.2 h21) wY_X0_passYears wI_X0_passYears wS_X0_passYears wL_X6_149 (grd_p h21) (by decide) rfl rfl (Nat.le_of_ble_eq_true rfl) ⟨Nat.le_of_ble_eq_true rfl, Nat.le_of_ble_eq_true rfl⟩ ⟨Nat.le_refl _, Nat.le_refl _⟩ dX6_out_50 ?_
        refine x_pop dX6_out_53 rfl ?_
        refine x_iinc 2 (v2 + 1) [1, 2, 0] dX6_out_54 rfl rfl (by decide) (lv' := [(0, .ref (gB G + v0)), (1, .int v1), (2, .int (v2 + 1))]) rfl ?_
        refine x_goto 26 dX6_out_57 rfl ?_
        exact ih v0 v1 (v2 + 1) q20.2 hf
      · rw [if_pos c17] at hf
        refine x_iload_n 2 dX6_out_43 rfl ?_
        exact y_iret rfl rfl rfl hf dX6_out_44
def fX6_out (a : Nat) (u1 : Int32) (μ : Mu) : Option (Int32 × Mu) := grd (isO 6 a μ) ((gR 6 a 1 μ).bind fun x1 =>
    (fX0_hasHour x1 u1 μ).bind fun q3 =>
    (if q3.1 = 0 then
    some ((-1), q3.2)
    else
    (gR 6 a 2 q3.2).bind fun x6 =>
    (gR 6 a 1 q3.2).bind fun x8 =>
    (fX0_copyFrom x6 x8 q3.2).bind fun q10 =>
    fX6_out_26  FU a u1 0 q10))
set_option maxRecDepth 20000 in
theorem tX6_out {G : Gm} {l : Launch} {r : Int32 × Mu} (a : Nat) (u1 : Int32) (μ : Mu) (hf : fX6_out a u1 μ = some r) : Mt G l yX6_out cX6_out 3 (some .int) (3) 0 0 [.ref (gB G + a), .int u1] μ (some (.int r.1)) r.2 := by
  rw [fX6_out] at hf
  have hf := grd_v hf
  refine Mt.of (by decide) (Nat.le_of_ble_eq_true rfl) (fun p e s m args below meth c => ?_)
  show LX6_out G p l e s m args below meth c r 0 [(0, .ref (gB G + a)), (1, .int u1)] [] μ
  refine x_aload_n 0 dX6_out_0 rfl ?_
  obtain ⟨x1, h2, hf⟩ := bnd hf
  refine x_getR wF_X6_19 (by decide) (by decide) rfl h2 dX6_out_1 ?_
  refine x_iload_n 1 dX6_out_4 rfl ?_
  obtain ⟨q3, h4, hf⟩ := bnd hf
  refine x_callVi (rest := []) [.int u1] (tX0_hasHour x1 u1 μ h4) wY_X0_hasHour wI_X0_hasHour wS_X0_hasHour wL_X6_114 (grd_p h4) (by decide) rfl rfl (Nat.le_of_ble_eq_true rfl) ⟨Nat.le_of_ble_eq_true rfl, Nat.le_of_ble_eq_true rfl⟩ ⟨Nat.le_refl _, Nat.le_refl _⟩ dX6_out_5 ?_
  refine x_if_ne 13 dX6_out_8 rfl (fun c5 => ?_) (fun c5 => ?_)
  · rw [if_neg c5] at hf
    refine x_aload_n 0 dX6_out_13 rfl ?_
    obtain ⟨x6, h7, hf⟩ := bnd hf
    refine x_getR wF_X6_23 (by decide) (by decide) rfl h7 dX6_out_14 ?_
    refine x_aload_n 0 dX6_out_17 rfl ?_
    obtain ⟨x8, h9, hf⟩ := bnd hf
    refine x_getR wF_X6_19 (by decide) (by decide) rfl h9 dX6_out_18 ?_
    obtain ⟨q10, h11, hf⟩ := bnd hf
    refine x_callVv (rest := []) [.ref (gB G + x8)] (tX0_copyFrom x6 x8 q3.2 h11) wY_X0_copyFrom wI_X0_copyFrom wS_X0_copyFrom wL_X6_91 (grd_p h11) (by decide) rfl rfl (Nat.le_of_ble_eq_true rfl) ⟨Nat.le_of_ble_eq_true rfl, Nat.le_of_ble_eq_true rfl⟩ ⟨Nat.le_refl _, Nat.le_refl _⟩ dX6_out_21 ?_
    refine x_iconst 0 dX6_out_24 (by decide) ?_
    refine x_istore_n [1, 2, 0] dX6_out_25 (by decide) (lv' := [(0, .ref (gB G + a)), (1, .int u1), (2, .int 0)]) rfl ?_
    exact tX6_out_26  FU a u1 0 q10 hf
  · rw [if_pos c5] at hf
    refine x_iconst (-1) dX6_out_11 (by decide) ?_
    exact y_iret rfl rfl rfl hf dX6_out_12
abbrev LX6_behind (G : Gm) (p : Program) (l : Launch) (e : Env) (s : State) (m : MethodId) (args : Array Value) (below : List Frame) (meth : Method) (c : Code) (r : Int32 × Mu) (pc : Nat) (lv : List (Nat × Value)) (st : List Value) (μ : Mu) : Prop := Lt G p l e { frames := 3, cells := 0, slots := 0, locals := 40 * (3) } s m args below meth c cX6_behind 3 RX6 (some .int) "behind" (MQ below (Qm G (some (.int r.1)) r.2 0) args s 0 0 (fA G)) 0 0 pc lv st μ
def fX6_behind (a : Nat) (u1 : Int32) (u2 : Int32) (μ : Mu) : Option (Int32 × Mu) := grd (isO 6 a μ) ((fX6_isWithin u1 0 60 μ).bind fun q1 =>
    (if q1.1 = 0 then
    some ((-1), q1.2)
    else
    (gR 6 a 1 q1.2).bind fun x4 =>
    (fX0_hasHour x4 u2 q1.2).bind fun q6 =>
    (if q6.1 = 0 then
    some ((-1), q6.2)
    else
    (gR 6 a 2 q6.2).bind fun x9 =>
    (gR 6 a 1 q6.2).bind fun x11 =>
    (fX0_copyFrom x9 x11 q6.2).bind fun q13 =>
    (gR 6 a 2 q13).bind fun x15 =>
    (fX0_passYears x15 u1 q13).bind fun q17 =>
    (gR 6 a 2 q17.2).bind fun x19 =>
    (fX0_placeOf x19 u2 q17.2).bind fun q21 =>
    some (q21.1, q21.2))))
set_option maxRecDepth 20000 in
theorem tX6_behind {G : Gm} {l : Launch} {r : Int32 × Mu} (a : Nat) (u1 : Int32) (u2 : Int32) (μ : Mu) (hf : fX6_behind a u1 u2 μ = some r) : Mt G l yX6_behind cX6_behind 3 (some .int) (3) 0 0 [.ref (gB G + a), .int u1, .int u2] μ (some (.int r.1)) r.2 := by
  rw [fX6_behind] at hf
  have hf := grd_v hf
  refine Mt.of (by decide) (Nat.le_of_ble_eq_true rfl) (fun p e s m args below meth c => ?_)
  show LX6_behind G p l e s m args below meth c r 0 [(0, .ref (gB G + a)), (1, .int u1), (2, .int u2)] [] μ
  refine x_iload_n 1 dX6_behind_0 rfl ?_
  refine x_iconst 0 dX6_behind_1 (by decide) ?_
  refine x_bipush 60 dX6_behind_2 (by decide) ?_
  obtain ⟨q1, h2, hf⟩ := bnd hf
  refine x_callSi (rest := []) [.int u1, .int 0, .int 60] (tX6_isWithin u1 0 60 μ h2) wY_X6_isWithin wT_X6_isWithin wL_X6_139 rfl (Nat.le_of_ble_eq_true rfl) ⟨Nat.le_of_ble_eq_true rfl, Nat.le_of_ble_eq_true rfl⟩ ⟨Nat.le_refl _, Nat.le_refl _⟩ dX6_behind_4 ?_
  refine x_if_eq 21 dX6_behind_7 rfl (fun c3 => ?_) (fun c3 => ?_)
  · rw [if_pos c3] at hf
    refine x_iconst (-1) dX6_behind_21 (by decide) ?_
    exact y_iret rfl rfl rfl hf dX6_behind_22
  · rw [if_neg c3] at hf
    refine x_aload_n 0 dX6_behind_10 rfl ?_
    obtain ⟨x4, h5, hf⟩ := bnd hf
    refine x_getR wF_X6_19 (by decide) (by decide) rfl h5 dX6_behind_11 ?_
    refine x_iload_n 2 dX6_behind_14 rfl ?_
    obtain ⟨q6, h7, hf⟩ := bnd hf
    refine x_callVi (rest := []) [.int u2] (tX0_hasHour x4 u2 q1.2 h7) wY_X0_hasHour wI_X0_hasHour wS_X0_hasHour wL_X6_114 (grd_p h7) (by decide) rfl rfl (Nat.le_of_ble_eq_true rfl) ⟨Nat.le_of_ble_eq_true rfl, Nat.le_of_ble_eq_true rfl⟩ ⟨Nat.le_refl _, Nat.le_refl _⟩ dX6_behind_15 ?_
    refine x_if_ne 23 dX6_behind_18 rfl (fun c8 => ?_) (fun c8 => ?_)
    · rw [if_neg c8] at hf
      refine x_aload_n 0 dX6_behind_23 rfl ?_
      obtain ⟨x9, h10, hf⟩ := bnd hf
      refine x_getR wF_X6_23 (by decide) (by decide) rfl h10 dX6_behind_24 ?_
      refine x_aload_n 0 dX6_behind_27 rfl ?_
      obtain ⟨x11, h12, hf⟩ := bnd hf
      refine x_getR wF_X6_19 (by decide) (by decide) rfl h12 dX6_behind_28 ?_
      obtain ⟨q13, h14, hf⟩ := bnd hf
      refine x_callVv (rest := []) [.ref (gB G + x11)] (tX0_copyFrom x9 x11 q6.2 h14) wY_X0_copyFrom wI_X0_copyFrom wS_X0_copyFrom wL_X6_91 (grd_p h14) (by decide) rfl rfl (Nat.le_of_ble_eq_true rfl) ⟨Nat.le_of_ble_eq_true rfl, Nat.le_of_ble_eq_true rfl⟩ ⟨Nat.le_refl _, Nat.le_refl _⟩ dX6_behind_31 ?_
      refine x_aload_n 0 dX6_behind_34 rfl ?_
      obtain ⟨x15, h16, hf⟩ := bnd hf
      refine x_getR wF_X6_23 (by decide) (by decide) rfl h16 dX6_behind_35 ?_
      refine x_iload_n 1 dX6_behind_38 rfl ?_
      obtain ⟨q17, h18, hf⟩ := bnd hf
      refine x_callVi (rest := []) [.int u1] (tX0_passYears x15 u1 q13 h18) wY_X0_passYears wI_X0_passYears wS_X0_passYears wL_X6_149 (grd_p h18) (by decide) rfl rfl (Nat.le_of_ble_eq_true rfl) ⟨Nat.le_of_ble_eq_true rfl, Nat.le_of_ble_eq_true rfl⟩ ⟨Nat.le_refl _, Nat.le_refl _⟩ dX6_behind_39 ?_
      refine x_pop dX6_behind_42 rfl ?_
      refine x_aload_n 0 dX6_behind_43 rfl ?_
      obtain ⟨x19, h20, hf⟩ := bnd hf
      refine x_getR wF_X6_23 (by decide) (by decide) rfl h20 dX6_behind_44 ?_
      refine x_iload_n 2 dX6_behind_47 rfl ?_
      obtain ⟨q21, h22, hf⟩ := bnd hf
      refine x_callVi (rest := []) [.int u2] (tX0_placeOf x19 u2 q17.2 h22) wY_X0_placeOf wI_X0_placeOf wS_X0_placeOf wL_X6_123 (grd_p h22) (by decide) rfl rfl (Nat.le_of_ble_eq_true rfl) ⟨Nat.le_of_ble_eq_true rfl, Nat.le_of_ble_eq_true rfl⟩ ⟨Nat.le_refl _, Nat.le_refl _⟩ dX6_behind_48 ?_
      exact y_iret rfl rfl rfl hf dX6_behind_51
    · rw [if_pos c8] at hf
      refine x_iconst (-1) dX6_behind_21 (by decide) ?_
      exact y_iret rfl rfl rfl hf dX6_behind_22
abbrev LX6_above (G : Gm) (p : Program) (l : Launch) (e : Env) (s : State) (m : MethodId) (args : Array Value) (below : List Frame) (meth : Method) (c : Code) (r : Int32 × Mu) (pc : Nat) (lv : List (Nat × Value)) (st : List Value) (μ : Mu) : Prop := Lt G p l e { frames := 4, cells := 0, slots := 0, locals := 40 * (4) } s m args below meth c cX6_above 2 RX6 (some .int) "above" (MQ below (Qm G (some (.int r.1)) r.2 0) args s 0 0 (fA G)) 0 0 pc lv st μ
def fX6_above (a : Nat) (u1 : Int32) (μ : Mu) : Option (Int32 × Mu) := grd (isO 6 a μ) ((gR 6 a 1 μ).bind fun x1 =>
    (fX0_hasHour x1 u1 μ).bind fun q3 =>
    (if q3.1 = 0 then
    some ((-1), q3.2)
    else
    (gR 6 a 1 q3.2).bind fun x6 =>
    (fX0_bitsAbove x6 u1 q3.2).bind fun q8 =>
    some (q8.1, q8.2)))
set_option maxRecDepth 20000 in
theorem tX6_above {G : Gm} {l : Launch} {r : Int32 × Mu} (a : Nat) (u1 : Int32) (μ : Mu) (hf : fX6_above a u1 μ = some r) : Mt G l yX6_above cX6_above 2 (some .int) (4) 0 0 [.ref (gB G + a), .int u1] μ (some (.int r.1)) r.2 := by
  rw [fX6_above] at hf
  have hf := grd_v hf
  refine Mt.of (by decide) (Nat.le_of_ble_eq_true rfl) (fun p e s m args below meth c => ?_)
  show LX6_above G p l e s m args below meth c r 0 [(0, .ref (gB G + a)), (1, .int u1)] [] μ
  refine x_aload_n 0 dX6_above_0 rfl ?_
  obtain ⟨x1, h2, hf⟩ := bnd hf
  refine x_getR wF_X6_19 (by decide) (by decide) rfl h2 dX6_above_1 ?_
  refine x_iload_n 1 dX6_above_4 rfl ?_
  obtain ⟨q3, h4, hf⟩ := bnd hf
  refine x_callVi (rest := []) [.int u1] (tX0_hasHour x1 u1 μ h4) wY_X0_hasHour wI_X0_hasHour wS_X0_hasHour wL_X6_114 (grd_p h4) (by decide) rfl rfl (Nat.le_of_ble_eq_true rfl) ⟨Nat.le_of_ble_eq_true rfl, Nat.le_of_ble_eq_true rfl⟩ ⟨Nat.le_refl _, Nat.le_refl _⟩ dX6_above_5 ?_
  refine x_if_eq 22 dX6_above_8 rfl (fun c5 => ?_) (fun c5 => ?_)
  · rw [if_pos c5] at hf
    refine x_iconst (-1) dX6_above_22 (by decide) ?_
    exact y_iret rfl rfl rfl hf dX6_above_23
  · rw [if_neg c5] at hf
    refine x_aload_n 0 dX6_above_11 rfl ?_
    obtain ⟨x6, h7, hf⟩ := bnd hf
    refine x_getR wF_X6_19 (by decide) (by decide) rfl h7 dX6_above_12 ?_
    refine x_iload_n 1 dX6_above_15 rfl ?_
    obtain ⟨q8, h9, hf⟩ := bnd hf
    refine x_callVi (rest := []) [.int u1] (tX0_bitsAbove x6 u1 q3.2 h9) wY_X0_bitsAbove wI_X0_bitsAbove wS_X0_bitsAbove wL_X6_172 (grd_p h9) (by decide) rfl rfl (Nat.le_of_ble_eq_true rfl) ⟨Nat.le_of_ble_eq_true rfl, Nat.le_of_ble_eq_true rfl⟩ ⟨Nat.le_refl _, Nat.le_refl _⟩ dX6_above_16 ?_
    refine x_goto 23 dX6_above_19 rfl ?_
    exact y_iret rfl rfl rfl hf dX6_above_23
abbrev LX6_stir (G : Gm) (p : Program) (l : Launch) (e : Env) (s : State) (m : MethodId) (args : Array Value) (below : List Frame) (meth : Method) (c : Code) (r : Int32 × Mu) (pc : Nat) (lv : List (Nat × Value)) (st : List Value) (μ : Mu) : Prop := Lt G p l e { frames := 5, cells := 0, slots := 0, locals := 40 * (5) } s m args below meth c cX6_stir 2 RX6 (some .int) "stir" (MQ below (Qm G (some (.int r.1)) r.2 0) args s 0 0 (fA G)) 0 0 pc lv st μ
def fX6_stir (a : Nat) (u1 : Int32) (μ : Mu) : Option (Int32 × Mu) := grd (isO 6 a μ) ((if u1 < 0 then
    some ((-1), μ)
    else
    (gR 6 a 1 μ).bind fun x2 =>
    (fX0_setCount x2  μ).bind fun q4 =>
    (if u1 < q4.1 then
    (gR 6 a 1 q4.2).bind fun x7 =>
    (fX0_allLie x7 u1 q4.2).bind fun q9 =>
    (if q9.1 = 0 then
    some ((-2), q9.2)
    else
    (gR 6 a 1 q9.2).bind fun x12 =>
    (fX0_stirOf x12 u1 q9.2).bind fun q14 =>
    some (q14.1, q14.2))
    else
    some ((-1), q4.2))))
set_option maxRecDepth 20000 in
theorem tX6_stir {G : Gm} {l : Launch} {r : Int32 × Mu} (a : Nat) (u1 : Int32) (μ : Mu) (hf : fX6_stir a u1 μ = some r) : Mt G l yX6_stir cX6_stir 2 (some .int) (5) 0 0 [.ref (gB G + a), .int u1] μ (some (.int r.1)) r.2 := by
  rw [fX6_stir] at hf
  have hf := grd_v hf
  refine Mt.of (by decide) (Nat.le_of_ble_eq_true rfl) (fun p e s m args below meth c => ?_)
  show LX6_stir G p l e s m args below meth c r 0 [(0, .ref (gB G + a)), (1, .int u1)] [] μ
  refine x_iload_n 1 dX6_stir_0 rfl ?_
  refine x_if_lt 15 dX6_stir_1 rfl (fun c1 => ?_) (fun c1 => ?_)
  · rw [if_pos c1] at hf
    refine x_iconst (-1) dX6_stir_15 (by decide) ?_
    exact y_iret rfl rfl rfl hf dX6_stir_16
  · rw [if_neg c1] at hf
    refine x_iload_n 1 dX6_stir_4 rfl ?_
    refine x_aload_n 0 dX6_stir_5 rfl ?_
    obtain ⟨x2, h3, hf⟩ := bnd hf
    refine x_getR wF_X6_19 (by decide) (by decide) rfl h3 dX6_stir_6 ?_
    obtain ⟨q4, h5, hf⟩ := bnd hf
    refine x_callVi (rest := [.int u1]) [] (tX0_setCount x2  μ h5) wY_X0_setCount wI_X0_setCount wS_X0_setCount wL_X6_180 (grd_p h5) (by decide) rfl rfl (Nat.le_of_ble_eq_true rfl) ⟨Nat.le_of_ble_eq_true rfl, Nat.le_of_ble_eq_true rfl⟩ ⟨Nat.le_refl _, Nat.le_refl _⟩ dX6_stir_9 ?_
    refine x_icmp_lt 17 dX6_stir_12 rfl (fun c6 => ?_) (fun c6 => ?_)
    · rw [if_pos c6] at hf
      refine x_aload_n 0 dX6_stir_17 rfl ?_
      obtain ⟨x7, h8, hf⟩ := bnd hf
      refine x_getR wF_X6_19 (by decide) (by decide) rfl h8 dX6_stir_18 ?_
      refine x_iload_n 1 dX6_stir_21 rfl ?_
      obtain ⟨q9, h10, hf⟩ := bnd hf
      refine x_callVi (rest := []) [.int u1] (tX0_allLie x7 u1 q4.2 h10) wY_X0_allLie wI_X0_allLie wS_X0_allLie wL_X6_183 (grd_p h10) (by decide) rfl rfl (Nat.le_of_ble_eq_true rfl) ⟨Nat.le_of_ble_eq_true rfl, Nat.le_of_ble_eq_true rfl⟩ ⟨Nat.le_refl _, Nat.le_refl _⟩ dX6_stir_22 ?_
      refine x_if_eq 39 dX6_stir_25 rfl (fun c11 => ?_) (fun c11 => ?_)
      · rw [if_pos c11] at hf
        refine x_bipush (-2) dX6_stir_39 (by decide) ?_
        exact y_iret rfl rfl rfl hf dX6_stir_41
      · rw [if_neg c11] at hf
        refine x_aload_n 0 dX6_stir_28 rfl ?_
        obtain ⟨x12, h13, hf⟩ := bnd hf
        refine x_getR wF_X6_19 (by decide) (by decide) rfl h13 dX6_stir_29 ?_
        refine x_iload_n 1 dX6_stir_32 rfl ?_
        obtain ⟨q14, h15, hf⟩ := bnd hf
        refine x_callVi (rest := []) [.int u1] (tX0_stirOf x12 u1 q9.2 h15) wY_X0_stirOf wI_X0_stirOf wS_X0_stirOf wL_X6_186 (grd_p h15) (by decide) rfl rfl (Nat.le_of_ble_eq_true rfl) ⟨Nat.le_of_ble_eq_true rfl, Nat.le_of_ble_eq_true rfl⟩ ⟨Nat.le_refl _, Nat.le_refl _⟩ dX6_stir_33 ?_
        refine x_goto 41 dX6_stir_36 rfl ?_
        exact y_iret rfl rfl rfl hf dX6_stir_41
    · rw [if_neg c6] at hf
      refine x_iconst (-1) dX6_stir_15 (by decide) ?_
      exact y_iret rfl rfl rfl hf dX6_stir_16
abbrev LX6_cheap (G : Gm) (p : Program) (l : Launch) (e : Env) (s : State) (m : MethodId) (args : Array Value) (below : List Frame) (meth : Method) (c : Code) (r : Int32 × Mu) (pc : Nat) (lv : List (Nat × Value)) (st : List Value) (μ : Mu) : Prop := Lt G p l e { frames := 6, cells := 0, slots := 0, locals := 40 * (6) } s m args below meth c cX6_cheap 4 RX6 (some .int) "cheap" (MQ below (Qm G (some (.int r.1)) r.2 0) args s 0 0 (fA G)) 0 0 pc lv st μ
def fX6_cheap (a : Nat) (u1 : Int32) (u2 : Int32) (μ : Mu) : Option (Int32 × Mu) := grd (isO 6 a μ) ((fX6_isWithin u1 1 140 μ).bind fun q1 =>
    (if q1.1 = 0 then
    some ((-1), q1.2)
    else
    (fX6_isWithin u2 0 1 q1.2).bind fun q4 =>
    (if q4.1 = 0 then
    some ((-1), q4.2)
    else
    (gR 6 a 1 q4.2).bind fun x7 =>
    (fX0_cheapestSet x7 u1 q4.2).bind fun q9 =>
    (if q9.1 = 0 then
    some ((-4), q9.2)
    else
    (if u2 = 0 then
    some (q9.1, q9.2)
    else
    (gR 6 a 1 q9.2).bind fun x13 =>
    (fX0_stirOf x13 q9.1 q9.2).bind fun q15 =>
    some (q15.1, q15.2))))))
set_option maxRecDepth 20000 in
theorem tX6_cheap {G : Gm} {l : Launch} {r : Int32 × Mu} (a : Nat) (u1 : Int32) (u2 : Int32) (μ : Mu) (hf : fX6_cheap a u1 u2 μ = some r) : Mt G l yX6_cheap cX6_cheap 4 (some .int) (6) 0 0 [.ref (gB G + a), .int u1, .int u2] μ (some (.int r.1)) r.2 := by
  rw [fX6_cheap] at hf
  have hf := grd_v hf
  refine Mt.of (by decide) (Nat.le_of_ble_eq_true rfl) (fun p e s m args below meth c => ?_)
  show LX6_cheap G p l e s m args below meth c r 0 [(0, .ref (gB G + a)), (1, .int u1), (2, .int u2)] [] μ
  refine x_iload_n 1 dX6_cheap_0 rfl ?_
  refine x_iconst 1 dX6_cheap_1 (by decide) ?_
  refine x_sipush 140 dX6_cheap_2 (by decide) ?_
  obtain ⟨q1, h2, hf⟩ := bnd hf
  refine x_callSi (rest := []) [.int u1, .int 1, .int 140] (tX6_isWithin u1 1 140 μ h2) wY_X6_isWithin wT_X6_isWithin wL_X6_139 rfl (Nat.le_of_ble_eq_true rfl) ⟨Nat.le_of_ble_eq_true rfl, Nat.le_of_ble_eq_true rfl⟩ ⟨Nat.le_refl _, Nat.le_refl _⟩ dX6_cheap_5 ?_
  refine x_if_eq 20 dX6_cheap_8 rfl (fun c3 => ?_) (fun c3 => ?_)
  · rw [if_pos c3] at hf
    refine x_iconst (-1) dX6_cheap_20 (by decide) ?_
    exact y_iret rfl rfl rfl hf dX6_cheap_21
  · rw [if_neg c3] at hf
    refine x_iload_n 2 dX6_cheap_11 rfl ?_
    refine x_iconst 0 dX6_cheap_12 (by decide) ?_
    refine x_iconst 1 dX6_cheap_13 (by decide) ?_
    obtain ⟨q4, h5, hf⟩ := bnd hf
    refine x_callSi (rest := []) [.int u2, .int 0, .int 1] (tX6_isWithin u2 0 1 q1.2 h5) wY_X6_isWithin wT_X6_isWithin wL_X6_139 rfl (Nat.le_of_ble_eq_true rfl) ⟨Nat.le_of_ble_eq_true rfl, Nat.le_of_ble_eq_true rfl⟩ ⟨Nat.le_refl _, Nat.le_refl _⟩ dX6_cheap_14 ?_
    refine x_if_ne 22 dX6_cheap_17 rfl (fun c6 => ?_) (fun c6 => ?_)
    · rw [if_neg c6] at hf
      refine x_aload_n 0 dX6_cheap_22 rfl ?_
      obtain ⟨x7, h8, hf⟩ := bnd hf
      refine x_getR wF_X6_19 (by decide) (by decide) rfl h8 dX6_cheap_23 ?_
      refine x_iload_n 1 dX6_cheap_26 rfl ?_
      obtain ⟨q9, h10, hf⟩ := bnd hf
      refine x_callVi (rest := []) [.int u1] (tX0_cheapestSet x7 u1 q4.2 h10) wY_X0_cheapestSet wI_X0_cheapestSet wS_X0_cheapestSet wL_X6_189 (grd_p h10) (by decide) rfl rfl (Nat.le_of_ble_eq_true rfl) ⟨Nat.le_of_ble_eq_true rfl, Nat.le_of_ble_eq_true rfl⟩ ⟨Nat.le_refl _, Nat.le_refl _⟩ dX6_cheap_27 ?_
      refine x_istore_n [1, 2, 3, 0] dX6_cheap_30 (by decide) (lv' := [(0, .ref (gB G + a)), (1, .int u1), (2, .int u2), (3, .int q9.1)]) rfl ?_
      refine x_iload_n 3 dX6_cheap_31 rfl ?_
      refine x_if_ne 38 dX6_cheap_32 rfl (fun c11 => ?_) (fun c11 => ?_)
      · rw [if_neg c11] at hf
        refine x_iload_n 2 dX6_cheap_38 rfl ?_
        refine x_if_ne 46 dX6_cheap_39 rfl (fun c12 => ?_) (fun c12 => ?_)
        · rw [if_neg c12] at hf
          refine x_aload_n 0 dX6_cheap_46 rfl ?_
          obtain ⟨x13, h14, hf⟩ := bnd hf
          refine x_getR wF_X6_19 (by decide) (by decide) rfl h14 dX6_cheap_47 ?_
          refine x_iload_n 3 dX6_cheap_50 rfl ?_
          obtain ⟨q15, h16, hf⟩ := bnd hf
          refine x_callVi (rest := []) [.int q9.1] (tX0_stirOf x13 q9.1 q9.2 h16) wY_X0_stirOf wI_X0_stirOf wS_X0_stirOf wL_X6_186 (grd_p h16) (by decide) rfl rfl (Nat.le_of_ble_eq_true rfl) ⟨Nat.le_of_ble_eq_true rfl, Nat.le_of_ble_eq_true rfl⟩ ⟨Nat.le_refl _, Nat.le_refl _⟩ dX6_cheap_51 ?_
          exact y_iret rfl rfl rfl hf dX6_cheap_54
        · rw [if_pos c12] at hf
          refine x_iload_n 3 dX6_cheap_42 rfl ?_
          refine x_goto 54 dX6_cheap_43 rfl ?_
          exact y_iret rfl rfl rfl hf dX6_cheap_54
      · rw [if_pos c11] at hf
        refine x_bipush (-4) dX6_cheap_35 (by decide) ?_
        exact y_iret rfl rfl rfl hf dX6_cheap_37
    · rw [if_pos c6] at hf
      refine x_iconst (-1) dX6_cheap_20 (by decide) ?_
      exact y_iret rfl rfl rfl hf dX6_cheap_21
abbrev LX6_years (G : Gm) (p : Program) (l : Launch) (e : Env) (s : State) (m : MethodId) (args : Array Value) (below : List Frame) (meth : Method) (c : Code) (r : Int32 × Mu) (pc : Nat) (lv : List (Nat × Value)) (st : List Value) (μ : Mu) : Prop := Lt G p l e { frames := 3, cells := 0, slots := 0, locals := 40 * (3) } s m args below meth c cX6_years 2 RX6 (some .int) "years" (MQ below (Qm G (some (.int r.1)) r.2 0) args s 0 0 (fA G)) 0 0 pc lv st μ
def fX6_years (a : Nat) (u1 : Int32) (μ : Mu) : Option (Int32 × Mu) := grd (isO 6 a μ) ((fX6_isWithin u1 1 20 μ).bind fun q1 =>
    (if q1.1 = 0 then
    some ((-1), q1.2)
    else
    (gR 6 a 2 q1.2).bind fun x4 =>
    (gR 6 a 1 q1.2).bind fun x6 =>
    (fX0_copyFrom x4 x6 q1.2).bind fun q8 =>
    (gR 6 a 2 q8).bind fun x10 =>
    (fX0_passYears x10 u1 q8).bind fun q12 =>
    some (q12.1, q12.2)))
set_option maxRecDepth 20000 in
theorem tX6_years {G : Gm} {l : Launch} {r : Int32 × Mu} (a : Nat) (u1 : Int32) (μ : Mu) (hf : fX6_years a u1 μ = some r) : Mt G l yX6_years cX6_years 2 (some .int) (3) 0 0 [.ref (gB G + a), .int u1] μ (some (.int r.1)) r.2 := by
  rw [fX6_years] at hf
  have hf := grd_v hf
  refine Mt.of (by decide) (Nat.le_of_ble_eq_true rfl) (fun p e s m args below meth c => ?_)
  show LX6_years G p l e s m args below meth c r 0 [(0, .ref (gB G + a)), (1, .int u1)] [] μ
  refine x_iload_n 1 dX6_years_0 rfl ?_
  refine x_iconst 1 dX6_years_1 (by decide) ?_
  refine x_bipush 20 dX6_years_2 (by decide) ?_
  obtain ⟨q1, h2, hf⟩ := bnd hf
  refine x_callSi (rest := []) [.int u1, .int 1, .int 20] (tX6_isWithin u1 1 20 μ h2) wY_X6_isWithin wT_X6_isWithin wL_X6_139 rfl (Nat.le_of_ble_eq_true rfl) ⟨Nat.le_of_ble_eq_true rfl, Nat.le_of_ble_eq_true rfl⟩ ⟨Nat.le_refl _, Nat.le_refl _⟩ dX6_years_4 ?_
  refine x_if_ne 12 dX6_years_7 rfl (fun c3 => ?_) (fun c3 => ?_)
  · rw [if_neg c3] at hf
    refine x_aload_n 0 dX6_years_12 rfl ?_
    obtain ⟨x4, h5, hf⟩ := bnd hf
    refine x_getR wF_X6_23 (by decide) (by decide) rfl h5 dX6_years_13 ?_
    refine x_aload_n 0 dX6_years_16 rfl ?_
    obtain ⟨x6, h7, hf⟩ := bnd hf
    refine x_getR wF_X6_19 (by decide) (by decide) rfl h7 dX6_years_17 ?_
    obtain ⟨q8, h9, hf⟩ := bnd hf
    refine x_callVv (rest := []) [.ref (gB G + x6)] (tX0_copyFrom x4 x6 q1.2 h9) wY_X0_copyFrom wI_X0_copyFrom wS_X0_copyFrom wL_X6_91 (grd_p h9) (by decide) rfl rfl (Nat.le_of_ble_eq_true rfl) ⟨Nat.le_of_ble_eq_true rfl, Nat.le_of_ble_eq_true rfl⟩ ⟨Nat.le_refl _, Nat.le_refl _⟩ dX6_years_20 ?_
    refine x_aload_n 0 dX6_years_23 rfl ?_
    obtain ⟨x10, h11, hf⟩ := bnd hf
    refine x_getR wF_X6_23 (by decide) (by decide) rfl h11 dX6_years_24 ?_
    refine x_iload_n 1 dX6_years_27 rfl ?_
    obtain ⟨q12, h13, hf⟩ := bnd hf
    refine x_callVi (rest := []) [.int u1] (tX0_passYears x10 u1 q8 h13) wY_X0_passYears wI_X0_passYears wS_X0_passYears wL_X6_149 (grd_p h13) (by decide) rfl rfl (Nat.le_of_ble_eq_true rfl) ⟨Nat.le_of_ble_eq_true rfl, Nat.le_of_ble_eq_true rfl⟩ ⟨Nat.le_refl _, Nat.le_refl _⟩ dX6_years_28 ?_
    exact y_iret rfl rfl rfl hf dX6_years_31
  · rw [if_pos c3] at hf
    refine x_iconst (-1) dX6_years_10 (by decide) ?_
    exact y_iret rfl rfl rfl hf dX6_years_11
abbrev LX6_seen (G : Gm) (p : Program) (l : Launch) (e : Env) (s : State) (m : MethodId) (args : Array Value) (below : List Frame) (meth : Method) (c : Code) (r : Int32 × Mu) (pc : Nat) (lv : List (Nat × Value)) (st : List Value) (μ : Mu) : Prop := Lt G p l e { frames := 1, cells := 0, slots := 0, locals := 40 * (1) } s m args below meth c cX6_seen 4 RX6 (some .int) "seen" (MQ below (Qm G (some (.int r.1)) r.2 0) args s 0 0 (fA G)) 0 0 pc lv st μ
def fX6_seen_48 (v0 : Nat) (s0 : Nat) (s1 : Int32) (s2 : Int32) (s3 : Int32) (μ : Mu) : Option (Int32 × Mu) := (fX5_add s0 s1 s2 s3 μ).bind fun q15 =>
    (if q15.1 = 0 then
    some ((-3), q15.2)
    else
    (gR 6 v0 5 q15.2).bind fun x18 =>
    (gI 5 x18 0 q15.2).bind fun x20 =>
    some (x20, q15.2))
set_option maxRecDepth 20000 in
theorem tX6_seen_48 {G : Gm} {p : Program} {l : Launch} {e : Env} {s : State} {m : MethodId} {args : Array Value} {below : List Frame} {meth : Method} {c : Code} {r : Int32 × Mu} (v0 : Nat) (s0 : Nat) (s1 : Int32) (s2 : Int32) (s3 : Int32) (μ : Mu) (hf : fX6_seen_48 v0 s0 s1 s2 s3 μ = some r) : LX6_seen G p l e s m args below meth c r 48 [(0, .ref (gB G + v0))] [.int s3, .int s2, .int s1, .ref (gB G + s0)] μ := by
  rw [fX6_seen_48] at hf
  obtain ⟨q15, h16, hf⟩ := bnd hf
  refine x_callVi (rest := []) [.int s1, .int s2, .int s3] (tX5_add s0 s1 s2 s3 μ h16) wY_X5_add wI_X5_add wS_X5_add wL_X6_192 (grd_p h16) (by decide) rfl rfl (Nat.le_of_ble_eq_true rfl) ⟨Nat.le_of_ble_eq_true rfl, Nat.le_of_ble_eq_true rfl⟩ ⟨Nat.le_refl _, Nat.le_refl _⟩ dX6_seen_48 ?_
  refine x_if_eq 64 dX6_seen_51 rfl (fun c17 => ?_) (fun c17 => ?_)
  · rw [if_pos c17] at hf
    refine x_bipush (-3) dX6_seen_64 (by decide) ?_
    exact y_iret rfl rfl rfl hf dX6_seen_66
  · rw [if_neg c17] at hf
    refine x_aload_n 0 dX6_seen_54 rfl ?_
    obtain ⟨x18, h19, hf⟩ := bnd hf
    refine x_getR wF_X6_41 (by decide) (by decide) rfl h19 dX6_seen_55 ?_
    obtain ⟨x20, h21, hf⟩ := bnd hf
    refine x_getI wF_X6_195 (by decide) (by decide) rfl h21 dX6_seen_58 ?_
    refine x_goto 66 dX6_seen_61 rfl ?_
    exact y_iret rfl rfl rfl hf dX6_seen_66
def fX6_seen (a : Nat) (u1 : Int32) (u2 : Int32) (u3 : Int32) (μ : Mu) : Option (Int32 × Mu) := grd (isO 6 a μ) ((fX6_isWithin u1 0 20 μ).bind fun q1 =>
    (if q1.1 = 0 then
    some ((-1), q1.2)
    else
    (gR 6 a 1 q1.2).bind fun x4 =>
    (fX0_hasHour x4 u2 q1.2).bind fun q6 =>
    (if q6.1 = 0 then
    some ((-1), q6.2)
    else
    (fX6_isWithin u3 0 1 q6.2).bind fun q9 =>
    (if q9.1 = 0 then
    some ((-1), q9.2)
    else
    (gR 6 a 5 q9.2).bind fun x12 =>
    (if u3 = 1 then
    fX6_seen_48  a x12 u1 u2 1 q9.2
    else
    fX6_seen_48  a x12 u1 u2 0 q9.2)))))
set_option maxRecDepth 20000 in
theorem tX6_seen {G : Gm} {l : Launch} {r : Int32 × Mu} (a : Nat) (u1 : Int32) (u2 : Int32) (u3 : Int32) (μ : Mu) (hf : fX6_seen a u1 u2 u3 μ = some r) : Mt G l yX6_seen cX6_seen 4 (some .int) (1) 0 0 [.ref (gB G + a), .int u1, .int u2, .int u3] μ (some (.int r.1)) r.2 := by
  rw [fX6_seen] at hf
  have hf := grd_v hf
  refine Mt.of (by decide) (Nat.le_of_ble_eq_true rfl) (fun p e s m args below meth c => ?_)
  show LX6_seen G p l e s m args below meth c r 0 [(0, .ref (gB G + a)), (1, .int u1), (2, .int u2), (3, .int u3)] [] μ
  refine x_iload_n 1 dX6_seen_0 rfl ?_
  refine x_iconst 0 dX6_seen_1 (by decide) ?_
  refine x_bipush 20 dX6_seen_2 (by decide) ?_
  obtain ⟨q1, h2, hf⟩ := bnd hf
  refine x_callSi (rest := []) [.int u1, .int 0, .int 20] (tX6_isWithin u1 0 20 μ h2) wY_X6_isWithin wT_X6_isWithin wL_X6_139 rfl (Nat.le_of_ble_eq_true rfl) ⟨Nat.le_of_ble_eq_true rfl, Nat.le_of_ble_eq_true rfl⟩ ⟨Nat.le_refl _, Nat.le_refl _⟩ dX6_seen_4 ?_
  refine x_if_eq 30 dX6_seen_7 rfl (fun c3 => ?_) (fun c3 => ?_)
  · rw [if_pos c3] at hf
    refine x_iconst (-1) dX6_seen_30 (by decide) ?_
    exact y_iret rfl rfl rfl hf dX6_seen_31
  · rw [if_neg c3] at hf
    refine x_aload_n 0 dX6_seen_10 rfl ?_
    obtain ⟨x4, h5, hf⟩ := bnd hf
    refine x_getR wF_X6_19 (by decide) (by decide) rfl h5 dX6_seen_11 ?_
    refine x_iload_n 2 dX6_seen_14 rfl ?_
    obtain ⟨q6, h7, hf⟩ := bnd hf
    refine x_callVi (rest := []) [.int u2] (tX0_hasHour x4 u2 q1.2 h7) wY_X0_hasHour wI_X0_hasHour wS_X0_hasHour wL_X6_114 (grd_p h7) (by decide) rfl rfl (Nat.le_of_ble_eq_true rfl) ⟨Nat.le_of_ble_eq_true rfl, Nat.le_of_ble_eq_true rfl⟩ ⟨Nat.le_refl _, Nat.le_refl _⟩ dX6_seen_15 ?_
    refine x_if_eq 30 dX6_seen_18 rfl (fun c8 => ?_) (fun c8 => ?_)
    · rw [if_pos c8] at hf
      refine x_iconst (-1) dX6_seen_30 (by decide) ?_
      exact y_iret rfl rfl rfl hf dX6_seen_31
    · rw [if_neg c8] at hf
      refine x_iload_n 3 dX6_seen_21 rfl ?_
      refine x_iconst 0 dX6_seen_22 (by decide) ?_
      refine x_iconst 1 dX6_seen_23 (by decide) ?_
      obtain ⟨q9, h10, hf⟩ := bnd hf
      refine x_callSi (rest := []) [.int u3, .int 0, .int 1] (tX6_isWithin u3 0 1 q6.2 h10) wY_X6_isWithin wT_X6_isWithin wL_X6_139 rfl (Nat.le_of_ble_eq_true rfl) ⟨Nat.le_of_ble_eq_true rfl, Nat.le_of_ble_eq_true rfl⟩ ⟨Nat.le_refl _, Nat.le_refl _⟩ dX6_seen_24 ?_
      refine x_if_ne 32 dX6_seen_27 rfl (fun c11 => ?_) (fun c11 => ?_)
      · rw [if_neg c11] at hf
        refine x_aload_n 0 dX6_seen_32 rfl ?_
        obtain ⟨x12, h13, hf⟩ := bnd hf
        refine x_getR wF_X6_41 (by decide) (by decide) rfl h13 dX6_seen_33 ?_
        refine x_iload_n 1 dX6_seen_36 rfl ?_
        refine x_iload_n 2 dX6_seen_37 rfl ?_
        refine x_iload_n 3 dX6_seen_38 rfl ?_
        refine x_iconst 1 dX6_seen_39 (by decide) ?_
        refine x_icmp_ne 47 dX6_seen_40 rfl (fun c14 => ?_) (fun c14 => ?_)
        · rw [if_neg c14] at hf
          refine x_iconst 0 dX6_seen_47 (by decide) ?_
          refine x_sub [0] (lv' := [(0, .ref (gB G + a))]) rfl ?_
          exact tX6_seen_48  a x12 u1 u2 0 q9.2 hf
        · rw [if_pos c14] at hf
          refine x_iconst 1 dX6_seen_43 (by decide) ?_
          refine x_goto 48 dX6_seen_44 rfl ?_
          refine x_sub [0] (lv' := [(0, .ref (gB G + a))]) rfl ?_
          exact tX6_seen_48  a x12 u1 u2 1 q9.2 hf
      · rw [if_pos c11] at hf
        refine x_iconst (-1) dX6_seen_30 (by decide) ?_
        exact y_iret rfl rfl rfl hf dX6_seen_31
abbrev LX6_forget (G : Gm) (p : Program) (l : Launch) (e : Env) (s : State) (m : MethodId) (args : Array Value) (below : List Frame) (meth : Method) (c : Code) (r : Int32 × Mu) (pc : Nat) (lv : List (Nat × Value)) (st : List Value) (μ : Mu) : Prop := Lt G p l e { frames := 1, cells := 0, slots := 0, locals := 40 * (1) } s m args below meth c cX6_forget 1 RX6 (some .int) "forget" (MQ below (Qm G (some (.int r.1)) r.2 0) args s 0 0 (fA G)) 0 0 pc lv st μ
def fX6_forget (a : Nat) (μ : Mu) : Option (Int32 × Mu) := grd (isO 6 a μ) ((gR 6 a 5 μ).bind fun x1 =>
    (fX5_empty x1  μ).bind fun q3 =>
    some (q3.1, q3.2))
set_option maxRecDepth 20000 in
theorem tX6_forget {G : Gm} {l : Launch} {r : Int32 × Mu} (a : Nat) (μ : Mu) (hf : fX6_forget a μ = some r) : Mt G l yX6_forget cX6_forget 1 (some .int) (1) 0 0 [.ref (gB G + a)] μ (some (.int r.1)) r.2 := by
  rw [fX6_forget] at hf
  have hf := grd_v hf
  refine Mt.of (by decide) (Nat.le_of_ble_eq_true rfl) (fun p e s m args below meth c => ?_)
  show LX6_forget G p l e s m args below meth c r 0 [(0, .ref (gB G + a))] [] μ
  refine x_aload_n 0 dX6_forget_0 rfl ?_
  obtain ⟨x1, h2, hf⟩ := bnd hf
  refine x_getR wF_X6_41 (by decide) (by decide) rfl h2 dX6_forget_1 ?_
  obtain ⟨q3, h4, hf⟩ := bnd hf
  refine x_callVi (rest := []) [] (tX5_empty x1  μ h4) wY_X5_empty wI_X5_empty wS_X5_empty wL_X6_97 (grd_p h4) (by decide) rfl rfl (Nat.le_of_ble_eq_true rfl) ⟨Nat.le_of_ble_eq_true rfl, Nat.le_of_ble_eq_true rfl⟩ ⟨Nat.le_refl _, Nat.le_refl _⟩ dX6_forget_4 ?_
  exact y_iret rfl rfl rfl hf dX6_forget_7
abbrev LX6_plots (G : Gm) (p : Program) (l : Launch) (e : Env) (s : State) (m : MethodId) (args : Array Value) (below : List Frame) (meth : Method) (c : Code) (r : Int32 × Mu) (pc : Nat) (lv : List (Nat × Value)) (st : List Value) (μ : Mu) : Prop := Lt G p l e { frames := 4, cells := 0, slots := 0, locals := 40 * (4) } s m args below meth c cX6_plots 4 RX6 (some .int) "plots" (MQ below (Qm G (some (.int r.1)) r.2 0) args s 0 0 (fA G)) 0 0 pc lv st μ
def fX6_plots_17 : Nat → Nat → Int32 → Int32 → Int32 → Mu → Option (Int32 × Mu)
  | 0, _, _, _, _, _ => none
  | n + 1, v0, v1, v2, v3, μ => (gR 6 v0 1 μ).bind fun x6 =>
    (gI 0 x6 0 μ).bind fun x8 =>
    (if x8 ≤ v3 then
    some (v2, μ)
    else
    (gR 6 v0 2 μ).bind fun x11 =>
    (gR 6 v0 1 μ).bind fun x13 =>
    (fX0_copyFrom x11 x13 μ).bind fun q15 =>
    (gR 6 v0 2 q15).bind fun x17 =>
    (fX0_takeUp x17 v1 q15).bind fun q19 =>
    (gR 6 v0 2 q19.2).bind fun x21 =>
    (fX0_setOnTop x21 v1 v3 q19.2).bind fun q23 =>
    (gR 6 v0 5 q23).bind fun x25 =>
    (gR 6 v0 2 q23).bind fun x27 =>
    (fX5_comeTrueIn x25 x27 q23).bind fun q29 =>
    (if q29.1 = 0 then
    (fX6_plots_17 n) v0 v1 v2 (v3 + 1) q29.2
    else
    (fX6_plots_17 n) v0 v1 (v2 ||| (1 <<< (v3 &&& 31))) (v3 + 1) q29.2))
set_option maxRecDepth 20000 in
theorem tX6_plots_17 {G : Gm} {p : Program} {l : Launch} {e : Env} {s : State} {m : MethodId} {args : Array Value} {below : List Frame} {meth : Method} {c : Code} {r : Int32 × Mu} : ∀ (n : Nat) (v0 : Nat) (v1 : Int32) (v2 : Int32) (v3 : Int32) (μ : Mu), fX6_plots_17 n v0 v1 v2 v3 μ = some r → LX6_plots G p l e s m args below meth c r 17 [(0, .ref (gB G + v0)), (1, .int v1), (2, .int v2), (3, .int v3)] [] μ := by
  intro n
  induction n with
  | zero =>
    intro v0 v1 v2 v3 μ hf
    simp [fX6_plots_17] at hf
  | succ n ih =>
    intro v0 v1 v2 v3 μ hf
    rw [fX6_plots_17] at hf
    refine x_iload_n 3 dX6_plots_17 rfl ?_
    refine x_aload_n 0 dX6_plots_18 rfl ?_
    obtain ⟨x6, h7, hf⟩ := bnd hf
    refine x_getR wF_X6_19 (by decide) (by decide) rfl h7 dX6_plots_19 ?_
    obtain ⟨x8, h9, hf⟩ := bnd hf
    refine x_getI wF_X6_85 (by decide) (by decide) rfl h9 dX6_plots_22 ?_
    refine x_icmp_ge 83 dX6_plots_25 rfl (fun c10 => ?_) (fun c10 => ?_)
    · rw [if_pos c10] at hf
      refine x_iload_n 2 dX6_plots_83 rfl ?_
      exact y_iret rfl rfl rfl hf dX6_plots_84
    · rw [if_neg c10] at hf
      refine x_aload_n 0 dX6_plots_28 rfl ?_
      obtain ⟨x11, h12, hf⟩ := bnd hf
      refine x_getR wF_X6_23 (by decide) (by decide) rfl h12 dX6_plots_29 ?_
      refine x_aload_n 0 dX6_plots_32 rfl ?_
      obtain ⟨x13, h14, hf⟩ := bnd hf
      refine x_getR wF_X6_19 (by decide) (by decide) rfl h14 dX6_plots_33 ?_
      obtain ⟨q15, h16, hf⟩ := bnd hf
      refine x_callVv (rest := []) [.ref (gB G + x13)] (tX0_copyFrom x11 x13 μ h16) wY_X0_copyFrom wI_X0_copyFrom wS_X0_copyFrom wL_X6_91 (grd_p h16) (by decide) rfl rfl (Nat.le_of_ble_eq_true rfl) ⟨Nat.le_of_ble_eq_true rfl, Nat.le_of_ble_eq_true rfl⟩ ⟨Nat.le_refl _, Nat.le_refl _⟩ dX6_plots_36 ?_
      refine x_aload_n 0 dX6_plots_39 rfl ?_
      obtain ⟨x17, h18, hf⟩ := bnd hf
      refine x_getR wF_X6_23 (by decide) (by decide) rfl h18 dX6_plots_40 ?_
      refine x_iload_n 1 dX6_plots_43 rfl ?_
      obtain ⟨q19, h20, hf⟩ := bnd hf
      refine x_callVi (rest := []) [.int v1] (tX0_takeUp x17 v1 q15 h20) wY_X0_takeUp wI_X0_takeUp wS_X0_takeUp wL_X6_159 (grd_p h20) (by decide) rfl rfl (Nat.le_of_ble_eq_true rfl) ⟨Nat.le_of_ble_eq_true rfl, Nat.le_of_ble_eq_true rfl⟩ ⟨Nat.le_refl _, Nat.le_refl _⟩ dX6_plots_44 ?_
      refine x_pop dX6_plots_47 rfl ?_
      refine x_aload_n 0 dX6_plots_48 rfl ?_
      obtain ⟨x21, h22, hf⟩ := bnd hf
      refine x_getR wF_X6_23 (by decide) (by decide) rfl h22 dX6_plots_49 ?_
      refine x_iload_n 1 dX6_plots_52 rfl ?_
      refine x_iload_n 3 dX6_plots_53 rfl ?_
      obtain ⟨q23, h24, hf⟩ := bnd hf
      refine x_callVv (rest := []) [.int v1, .int v3] (tX0_setOnTop x21 v1 v3 q19.2 h24) wY_X0_setOnTop wI_X0_setOnTop wS_X0_setOnTop wL_X6_155 (grd_p h24) (by decide) rfl rfl (Nat.le_of_ble_eq_true rfl) ⟨Nat.le_of_ble_eq_true rfl, Nat.le_of_ble_eq_true rfl⟩ ⟨Nat.le_refl _, Nat.le_refl _⟩ dX6_plots_54 ?_
      refine x_aload_n 0 dX6_plots_57 rfl ?_
      obtain ⟨x25, h26, hf⟩ := bnd hf
      refine x_getR wF_X6_41 (by decide) (by decide) rfl h26 dX6_plots_58 ?_
      refine x_aload_n 0 dX6_plots_61 rfl ?_
      obtain ⟨x27, h28, hf⟩ := bnd hf
      refine x_getR wF_X6_23 (by decide) (by decide) rfl h28 dX6_plots_62 ?_
      obtain ⟨q29, h30, hf⟩ := bnd hf
      refine x_callVi (rest := []) [.ref (gB G + x27)] (tX5_comeTrueIn x25 x27 q23 h30) wY_X5_comeTrueIn wI_X5_comeTrueIn wS_X5_comeTrueIn wL_X6_196 (grd_p h30) (by decide) rfl rfl (Nat.le_of_ble_eq_true rfl) ⟨Nat.le_of_ble_eq_true rfl, Nat.le_of_ble_eq_true rfl⟩ ⟨Nat.le_refl _, Nat.le_refl _⟩ dX6_plots_65 ?_
      refine x_if_eq 77 dX6_plots_68 rfl (fun c31 => ?_) (fun c31 => ?_)
      · rw [if_pos c31] at hf
        refine x_iinc 3 (v3 + 1) [1, 2, 3, 0] dX6_plots_77 rfl rfl (by decide) (lv' := [(0, .ref (gB G + v0)), (1, .int v1), (2, .int v2), (3, .int (v3 + 1))]) rfl ?_
        refine x_goto 17 dX6_plots_80 rfl ?_
        exact ih v0 v1 v2 (v3 + 1) q29.2 hf
      · rw [if_neg c31] at hf
        refine x_iload_n 2 dX6_plots_71 rfl ?_
        refine x_iconst 1 dX6_plots_72 (by decide) ?_
        refine x_iload_n 3 dX6_plots_73 rfl ?_
        refine x_ishl dX6_plots_74 ?_
        refine x_ior dX6_plots_75 ?_
        refine x_istore_n [1, 2, 0, 3] dX6_plots_76 (by decide) (lv' := [(0, .ref (gB G + v0)), (1, .int v1), (2, .int (v2 ||| (1 <<< (v3 &&& 31)))), (3, .int v3)]) rfl ?_
        refine x_iinc 3 (v3 + 1) [1, 2, 3, 0] dX6_plots_77 rfl rfl (by decide) (lv' := [(0, .ref (gB G + v0)), (1, .int v1), (2, .int (v2 ||| (1 <<< (v3 &&& 31)))), (3, .int (v3 + 1))]) rfl ?_
        refine x_goto 17 dX6_plots_80 rfl ?_
        exact ih v0 v1 (v2 ||| (1 <<< (v3 &&& 31))) (v3 + 1) q29.2 hf
def fX6_plots (a : Nat) (u1 : Int32) (μ : Mu) : Option (Int32 × Mu) := grd (isO 6 a μ) ((gR 6 a 1 μ).bind fun x1 =>
    (fX0_hasHour x1 u1 μ).bind fun q3 =>
    (if q3.1 = 0 then
    some ((-1), q3.2)
    else
    fX6_plots_17  FU a u1 0 0 q3.2))
set_option maxRecDepth 20000 in
theorem tX6_plots {G : Gm} {l : Launch} {r : Int32 × Mu} (a : Nat) (u1 : Int32) (μ : Mu) (hf : fX6_plots a u1 μ = some r) : Mt G l yX6_plots cX6_plots 4 (some .int) (4) 0 0 [.ref (gB G + a), .int u1] μ (some (.int r.1)) r.2 := by
  rw [fX6_plots] at hf
  have hf := grd_v hf
  refine Mt.of (by decide) (Nat.le_of_ble_eq_true rfl) (fun p e s m args below meth c => ?_)
  show LX6_plots G p l e s m args below meth c r 0 [(0, .ref (gB G + a)), (1, .int u1)] [] μ
  refine x_aload_n 0 dX6_plots_0 rfl ?_
  obtain ⟨x1, h2, hf⟩ := bnd hf
  refine x_getR wF_X6_19 (by decide) (by decide) rfl h2 dX6_plots_1 ?_
  refine x_iload_n 1 dX6_plots_4 rfl ?_
  obtain ⟨q3, h4, hf⟩ := bnd hf
  refine x_callVi (rest := []) [.int u1] (tX0_hasHour x1 u1 μ h4) wY_X0_hasHour wI_X0_hasHour wS_X0_hasHour wL_X6_114 (grd_p h4) (by decide) rfl rfl (Nat.le_of_ble_eq_true rfl) ⟨Nat.le_of_ble_eq_true rfl, Nat.le_of_ble_eq_true rfl⟩ ⟨Nat.le_refl _, Nat.le_refl _⟩ dX6_plots_5 ?_
  refine x_if_ne 13 dX6_plots_8 rfl (fun c5 => ?_) (fun c5 => ?_)
  · rw [if_neg c5] at hf
    refine x_iconst 0 dX6_plots_13 (by decide) ?_
    refine x_istore_n [1, 2, 0] dX6_plots_14 (by decide) (lv' := [(0, .ref (gB G + a)), (1, .int u1), (2, .int 0)]) rfl ?_
    refine x_iconst 0 dX6_plots_15 (by decide) ?_
    refine x_istore_n [1, 2, 3, 0] dX6_plots_16 (by decide) (lv' := [(0, .ref (gB G + a)), (1, .int u1), (2, .int 0), (3, .int 0)]) rfl ?_
    exact tX6_plots_17  FU a u1 0 0 q3.2 hf
  · rw [if_pos c5] at hf
    refine x_iconst (-1) dX6_plots_11 (by decide) ?_
    exact y_iret rfl rfl rfl hf dX6_plots_12
abbrev LX6_kinds (G : Gm) (p : Program) (l : Launch) (e : Env) (s : State) (m : MethodId) (args : Array Value) (below : List Frame) (meth : Method) (c : Code) (r : Int32 × Mu) (pc : Nat) (lv : List (Nat × Value)) (st : List Value) (μ : Mu) : Prop := Lt G p l e { frames := 4, cells := 0, slots := 0, locals := 40 * (4) } s m args below meth c cX6_kinds 4 RX6 (some .int) "kinds" (MQ below (Qm G (some (.int r.1)) r.2 0) args s 0 0 (fA G)) 0 0 pc lv st μ
def fX6_kinds_17 : Nat → Nat → Int32 → Int32 → Int32 → Mu → Option (Int32 × Mu)
  | 0, _, _, _, _, _ => none
  | n + 1, v0, v1, v2, v3, μ => (if 4 ≤ v3 then
    some (v2, μ)
    else
    (gR 6 v0 2 μ).bind fun x7 =>
    (gR 6 v0 1 μ).bind fun x9 =>
    (fX0_copyFrom x7 x9 μ).bind fun q11 =>
    (gR 6 v0 2 q11).bind fun x13 =>
    (fX0_setKind x13 v1 v3 q11).bind fun q15 =>
    (gR 6 v0 5 q15).bind fun x17 =>
    (gR 6 v0 2 q15).bind fun x19 =>
    (fX5_comeTrueIn x17 x19 q15).bind fun q21 =>
    (if q21.1 = 0 then
    (fX6_kinds_17 n) v0 v1 v2 (v3 + 1) q21.2
    else
    (fX6_kinds_17 n) v0 v1 (v2 ||| (1 <<< (v3 &&& 31))) (v3 + 1) q21.2))
set_option maxRecDepth 20000 in
theorem tX6_kinds_17 {G : Gm} {p : Program} {l : Launch} {e : Env} {s : State} {m : MethodId} {args : Array Value} {below : List Frame} {meth : Method} {c : Code} {r : Int32 × Mu} : ∀ (n : Nat) (v0 : Nat) (v1 : Int32) (v2 : Int32) (v3 : Int32) (μ : Mu), fX6_kinds_17 n v0 v1 v2 v3 μ = some r → LX6_kinds G p l e s m args below meth c r 17 [(0, .ref (gB G + v0)), (1, .int v1), (2, .int v2), (3, .int v3)] [] μ := by
  intro n
  induction n with
  | zero =>
    intro v0 v1 v2 v3 μ hf
    simp [fX6_kinds_17] at hf
  | succ n ih =>
    intro v0 v1 v2 v3 μ hf
    rw [fX6_kinds_17] at hf
    refine x_iload_n 3 dX6_kinds_17 rfl ?_
    refine x_iconst 4 dX6_kinds_18 (by decide) ?_
    refine x_icmp_ge 68 dX6_kinds_19 rfl (fun c6 => ?_) (fun c6 => ?_)
    · rw [if_pos c6] at hf
      refine x_iload_n 2 dX6_kinds_68 rfl ?_
      exact y_iret rfl rfl rfl hf dX6_kinds_69
    · rw [if_neg c6] at hf
      refine x_aload_n 0 dX6_kinds_22 rfl ?_
      obtain ⟨x7, h8, hf⟩ := bnd hf
      refine x_getR wF_X6_23 (by decide) (by decide) rfl h8 dX6_kinds_23 ?_
      refine x_aload_n 0 dX6_kinds_26 rfl ?_
      obtain ⟨x9, h10, hf⟩ := bnd hf
      refine x_getR wF_X6_19 (by decide) (by decide) rfl h10 dX6_kinds_27 ?_
      obtain ⟨q11, h12, hf⟩ := bnd hf
      refine x_callVv (rest := []) [.ref (gB G + x9)] (tX0_copyFrom x7 x9 μ h12) wY_X0_copyFrom wI_X0_copyFrom wS_X0_copyFrom wL_X6_91 (grd_p h12) (by decide) rfl rfl (Nat.le_of_ble_eq_true rfl) ⟨Nat.le_of_ble_eq_true rfl, Nat.le_of_ble_eq_true rfl⟩ ⟨Nat.le_refl _, Nat.le_refl _⟩ dX6_kinds_30 ?_
      refine x_aload_n 0 dX6_kinds_33 rfl ?_
      obtain ⟨x13, h14, hf⟩ := bnd hf
      refine x_getR wF_X6_23 (by decide) (by decide) rfl h14 dX6_kinds_34 ?_
      refine x_iload_n 1 dX6_kinds_37 rfl ?_
      refine x_iload_n 3 dX6_kinds_38 rfl ?_
      obtain ⟨q15, h16, hf⟩ := bnd hf
      refine x_callVv (rest := []) [.int v1, .int v3] (tX0_setKind x13 v1 v3 q11 h16) wY_X0_setKind wI_X0_setKind wS_X0_setKind wL_X6_199 (grd_p h16) (by decide) rfl rfl (Nat.le_of_ble_eq_true rfl) ⟨Nat.le_of_ble_eq_true rfl, Nat.le_of_ble_eq_true rfl⟩ ⟨Nat.le_refl _, Nat.le_refl _⟩ dX6_kinds_39 ?_
      refine x_aload_n 0 dX6_kinds_42 rfl ?_
      obtain ⟨x17, h18, hf⟩ := bnd hf
      refine x_getR wF_X6_41 (by decide) (by decide) rfl h18 dX6_kinds_43 ?_
      refine x_aload_n 0 dX6_kinds_46 rfl ?_
      obtain ⟨x19, h20, hf⟩ := bnd hf
      refine x_getR wF_X6_23 (by decide) (by decide) rfl h20 dX6_kinds_47 ?_
      obtain ⟨q21, h22, hf⟩ := bnd hf
      refine x_callVi (rest := []) [.ref (gB G + x19)] (tX5_comeTrueIn x17 x19 q15 h22) wY_X5_comeTrueIn wI_X5_comeTrueIn wS_X5_comeTrueIn wL_X6_196 (grd_p h22) (by decide) rfl rfl (Nat.le_of_ble_eq_true rfl) ⟨Nat.le_of_ble_eq_true rfl, Nat.le_of_ble_eq_true rfl⟩ ⟨Nat.le_refl _, Nat.le_refl _⟩ dX6_kinds_50 ?_
      refine x_if_eq 62 dX6_kinds_53 rfl (fun c23 => ?_) (fun c23 => ?_)
      · rw [if_pos c23] at hf
        refine x_iinc 3 (v3 + 1) [1, 2, 3, 0] dX6_kinds_62 rfl rfl (by decide) (lv' := [(0, .ref (gB G + v0)), (1, .int v1), (2, .int v2), (3, .int (v3 + 1))]) rfl ?_
        refine x_goto 17 dX6_kinds_65 rfl ?_
        exact ih v0 v1 v2 (v3 + 1) q21.2 hf
      · rw [if_neg c23] at hf
        refine x_iload_n 2 dX6_kinds_56 rfl ?_
        refine x_iconst 1 dX6_kinds_57 (by decide) ?_
        refine x_iload_n 3 dX6_kinds_58 rfl ?_
        refine x_ishl dX6_kinds_59 ?_
        refine x_ior dX6_kinds_60 ?_
        refine x_istore_n [1, 2, 0, 3] dX6_kinds_61 (by decide) (lv' := [(0, .ref (gB G + v0)), (1, .int v1), (2, .int (v2 ||| (1 <<< (v3 &&& 31)))), (3, .int v3)]) rfl ?_
        refine x_iinc 3 (v3 + 1) [1, 2, 3, 0] dX6_kinds_62 rfl rfl (by decide) (lv' := [(0, .ref (gB G + v0)), (1, .int v1), (2, .int (v2 ||| (1 <<< (v3 &&& 31)))), (3, .int (v3 + 1))]) rfl ?_
        refine x_goto 17 dX6_kinds_65 rfl ?_
        exact ih v0 v1 (v2 ||| (1 <<< (v3 &&& 31))) (v3 + 1) q21.2 hf
def fX6_kinds (a : Nat) (u1 : Int32) (μ : Mu) : Option (Int32 × Mu) := grd (isO 6 a μ) ((gR 6 a 1 μ).bind fun x1 =>
    (fX0_hasHour x1 u1 μ).bind fun q3 =>
    (if q3.1 = 0 then
    some ((-1), q3.2)
    else
    fX6_kinds_17  FU a u1 0 0 q3.2))
set_option maxRecDepth 20000 in
theorem tX6_kinds {G : Gm} {l : Launch} {r : Int32 × Mu} (a : Nat) (u1 : Int32) (μ : Mu) (hf : fX6_kinds a u1 μ = some r) : Mt G l yX6_kinds cX6_kinds 4 (some .int) (4) 0 0 [.ref (gB G + a), .int u1] μ (some (.int r.1)) r.2 := by
  rw [fX6_kinds] at hf
  have hf := grd_v hf
  refine Mt.of (by decide) (Nat.le_of_ble_eq_true rfl) (fun p e s m args below meth c => ?_)
  show LX6_kinds G p l e s m args below meth c r 0 [(0, .ref (gB G + a)), (1, .int u1)] [] μ
  refine x_aload_n 0 dX6_kinds_0 rfl ?_
  obtain ⟨x1, h2, hf⟩ := bnd hf
  refine x_getR wF_X6_19 (by decide) (by decide) rfl h2 dX6_kinds_1 ?_
  refine x_iload_n 1 dX6_kinds_4 rfl ?_
  obtain ⟨q3, h4, hf⟩ := bnd hf
  refine x_callVi (rest := []) [.int u1] (tX0_hasHour x1 u1 μ h4) wY_X0_hasHour wI_X0_hasHour wS_X0_hasHour wL_X6_114 (grd_p h4) (by decide) rfl rfl (Nat.le_of_ble_eq_true rfl) ⟨Nat.le_of_ble_eq_true rfl, Nat.le_of_ble_eq_true rfl⟩ ⟨Nat.le_refl _, Nat.le_refl _⟩ dX6_kinds_5 ?_
  refine x_if_ne 13 dX6_kinds_8 rfl (fun c5 => ?_) (fun c5 => ?_)
  · rw [if_neg c5] at hf
    refine x_iconst 0 dX6_kinds_13 (by decide) ?_
    refine x_istore_n [1, 2, 0] dX6_kinds_14 (by decide) (lv' := [(0, .ref (gB G + a)), (1, .int u1), (2, .int 0)]) rfl ?_
    refine x_iconst 0 dX6_kinds_15 (by decide) ?_
    refine x_istore_n [1, 2, 3, 0] dX6_kinds_16 (by decide) (lv' := [(0, .ref (gB G + a)), (1, .int u1), (2, .int 0), (3, .int 0)]) rfl ?_
    exact tX6_kinds_17  FU a u1 0 0 q3.2 hf
  · rw [if_pos c5] at hf
    refine x_iconst (-1) dX6_kinds_11 (by decide) ?_
    exact y_iret rfl rfl rfl hf dX6_kinds_12
abbrev LX6_likely (G : Gm) (p : Program) (l : Launch) (e : Env) (s : State) (m : MethodId) (args : Array Value) (below : List Frame) (meth : Method) (c : Code) (r : Int32 × Mu) (pc : Nat) (lv : List (Nat × Value)) (st : List Value) (μ : Mu) : Prop := Lt G p l e { frames := 4, cells := 0, slots := 0, locals := 40 * (4) } s m args below meth c cX6_likely 5 RX6 (some .int) "likely" (MQ below (Qm G (some (.int r.1)) r.2 0) args s 0 0 (fA G)) 0 0 pc lv st μ
def fX6_likely (a : Nat) (u1 : Int32) (u2 : Int32) (u3 : Int32) (u4 : Int32) (μ : Mu) : Option (Int32 × Mu) := grd (isO 6 a μ) ((gR 6 a 1 μ).bind fun x1 =>
    (fX0_hasHour x1 u1 μ).bind fun q3 =>
    (if q3.1 = 0 then
    some ((-1), q3.2)
    else
    (fX6_isWithin u2 0 8 q3.2).bind fun q6 =>
    (if q6.1 = 0 then
    some ((-1), q6.2)
    else
    (fX6_isWithin u3 0 10 q6.2).bind fun q9 =>
    (if q9.1 = 0 then
    some ((-1), q9.2)
    else
    (fX6_isWithin u4 0 1 q9.2).bind fun q12 =>
    (if q12.1 = 0 then
    some ((-1), q12.2)
    else
    (gR 6 a 1 q12.2).bind fun x15 =>
    (fX0_lies x15 u1 q12.2).bind fun q17 =>
    (if q17.1 = 0 then
    some ((-2), q17.2)
    else
    (gR 6 a 7 q17.2).bind fun x20 =>
    (gR 6 a 1 q17.2).bind fun x22 =>
    (gR 6 a 1 q17.2).bind fun x24 =>
    (fX0_placeOf x24 u1 q17.2).bind fun q26 =>
    (fX0_visitsTo x22 q26.1 u2 q26.2).bind fun q28 =>
    (gR 6 a 1 q28.2).bind fun x30 =>
    (fX0_throwsBorneBy x30 u1 q28.2).bind fun q32 =>
    (fX1_reckon x20 q28.1 u3 q32.1 q32.2).bind fun q34 =>
    (if u4 = 0 then
    (gR 6 a 7 q34).bind fun x41 =>
    (gI 1 x41 0 q34).bind fun x43 =>
    some (x43, q34)
    else
    (gR 6 a 7 q34).bind fun x37 =>
    (gI 1 x37 1 q34).bind fun x39 =>
    some (x39, q34))))))))
set_option maxRecDepth 20000 in
theorem tX6_likely {G : Gm} {l : Launch} {r : Int32 × Mu} (a : Nat) (u1 : Int32) (u2 : Int32) (u3 : Int32) (u4 : Int32) (μ : Mu) (hf : fX6_likely a u1 u2 u3 u4 μ = some r) : Mt G l yX6_likely cX6_likely 5 (some .int) (4) 0 0 [.ref (gB G + a), .int u1, .int u2, .int u3, .int u4] μ (some (.int r.1)) r.2 := by
  rw [fX6_likely] at hf
  have hf := grd_v hf
  refine Mt.of (by decide) (Nat.le_of_ble_eq_true rfl) (fun p e s m args below meth c => ?_)
  show LX6_likely G p l e s m args below meth c r 0 [(0, .ref (gB G + a)), (1, .int u1), (2, .int u2), (3, .int u3), (4, .int u4)] [] μ
  refine x_aload_n 0 dX6_likely_0 rfl ?_
  obtain ⟨x1, h2, hf⟩ := bnd hf
  refine x_getR wF_X6_19 (by decide) (by decide) rfl h2 dX6_likely_1 ?_
  refine x_iload_n 1 dX6_likely_4 rfl ?_
  obtain ⟨q3, h4, hf⟩ := bnd hf
  refine x_callVi (rest := []) [.int u1] (tX0_hasHour x1 u1 μ h4) wY_X0_hasHour wI_X0_hasHour wS_X0_hasHour wL_X6_114 (grd_p h4) (by decide) rfl rfl (Nat.le_of_ble_eq_true rfl) ⟨Nat.le_of_ble_eq_true rfl, Nat.le_of_ble_eq_true rfl⟩ ⟨Nat.le_refl _, Nat.le_refl _⟩ dX6_likely_5 ?_
  refine x_if_eq 41 dX6_likely_8 rfl (fun c5 => ?_) (fun c5 => ?_)
  · rw [if_pos c5] at hf
    refine x_iconst (-1) dX6_likely_41 (by decide) ?_
    exact y_iret rfl rfl rfl hf dX6_likely_42
  · rw [if_neg c5] at hf
    refine x_iload_n 2 dX6_likely_11 rfl ?_
    refine x_iconst 0 dX6_likely_12 (by decide) ?_
    refine x_bipush 8 dX6_likely_13 (by decide) ?_
    obtain ⟨q6, h7, hf⟩ := bnd hf
    refine x_callSi (rest := []) [.int u2, .int 0, .int 8] (tX6_isWithin u2 0 8 q3.2 h7) wY_X6_isWithin wT_X6_isWithin wL_X6_139 rfl (Nat.le_of_ble_eq_true rfl) ⟨Nat.le_of_ble_eq_true rfl, Nat.le_of_ble_eq_true rfl⟩ ⟨Nat.le_refl _, Nat.le_refl _⟩ dX6_likely_15 ?_
    refine x_if_eq 41 dX6_likely_18 rfl (fun c8 => ?_) (fun c8 => ?_)
    · rw [if_pos c8] at hf
      refine x_iconst (-1) dX6_likely_41 (by decide) ?_
      exact y_iret rfl rfl rfl hf dX6_likely_42
    · rw [if_neg c8] at hf
      refine x_iload_n 3 dX6_likely_21 rfl ?_
      refine x_iconst 0 dX6_likely_22 (by decide) ?_
      refine x_bipush 10 dX6_likely_23 (by decide) ?_
      obtain ⟨q9, h10, hf⟩ := bnd hf
      refine x_callSi (rest := []) [.int u3, .int 0, .int 10] (tX6_isWithin u3 0 10 q6.2 h10) wY_X6_isWithin wT_X6_isWithin wL_X6_139 rfl (Nat.le_of_ble_eq_true rfl) ⟨Nat.le_of_ble_eq_true rfl, Nat.le_of_ble_eq_true rfl⟩ ⟨Nat.le_refl _, Nat.le_refl _⟩ dX6_likely_25 ?_
      refine x_if_eq 41 dX6_likely_28 rfl (fun c11 => ?_) (fun c11 => ?_)
      · rw [if_pos c11] at hf
        refine x_iconst (-1) dX6_likely_41 (by decide) ?_
        exact y_iret rfl rfl rfl hf dX6_likely_42
      · rw [if_neg c11] at hf
        refine x_iload 4 dX6_likely_31 rfl ?_
        refine x_iconst 0 dX6_likely_33 (by decide) ?_
        refine x_iconst 1 dX6_likely_34 (by decide) ?_
        obtain ⟨q12, h13, hf⟩ := bnd hf
        refine x_callSi (rest := []) [.int u4, .int 0, .int 1] (tX6_isWithin u4 0 1 q9.2 h13) wY_X6_isWithin wT_X6_isWithin wL_X6_139 rfl (Nat.le_of_ble_eq_true rfl) ⟨Nat.le_of_ble_eq_true rfl, Nat.le_of_ble_eq_true rfl⟩ ⟨Nat.le_refl _, Nat.le_refl _⟩ dX6_likely_35 ?_
        refine x_if_ne 43 dX6_likely_38 rfl (fun c14 => ?_) (fun c14 => ?_)
        · rw [if_neg c14] at hf
          refine x_aload_n 0 dX6_likely_43 rfl ?_
          obtain ⟨x15, h16, hf⟩ := bnd hf
          refine x_getR wF_X6_19 (by decide) (by decide) rfl h16 dX6_likely_44 ?_
          refine x_iload_n 1 dX6_likely_47 rfl ?_
          obtain ⟨q17, h18, hf⟩ := bnd hf
          refine x_callVi (rest := []) [.int u1] (tX0_lies x15 u1 q12.2 h18) wY_X0_lies wI_X0_lies wS_X0_lies wL_X6_126 (grd_p h18) (by decide) rfl rfl (Nat.le_of_ble_eq_true rfl) ⟨Nat.le_of_ble_eq_true rfl, Nat.le_of_ble_eq_true rfl⟩ ⟨Nat.le_refl _, Nat.le_refl _⟩ dX6_likely_48 ?_
          refine x_if_ne 57 dX6_likely_51 rfl (fun c19 => ?_) (fun c19 => ?_)
          · rw [if_neg c19] at hf
            refine x_aload_n 0 dX6_likely_57 rfl ?_
            obtain ⟨x20, h21, hf⟩ := bnd hf
            refine x_getR wF_X6_55 (by decide) (by decide) rfl h21 dX6_likely_58 ?_
            refine x_aload_n 0 dX6_likely_61 rfl ?_
            obtain ⟨x22, h23, hf⟩ := bnd hf
            refine x_getR wF_X6_19 (by decide) (by decide) rfl h23 dX6_likely_62 ?_
            refine x_aload_n 0 dX6_likely_65 rfl ?_
            obtain ⟨x24, h25, hf⟩ := bnd hf
            refine x_getR wF_X6_19 (by decide) (by decide) rfl h25 dX6_likely_66 ?_
            refine x_iload_n 1 dX6_likely_69 rfl ?_
            obtain ⟨q26, h27, hf⟩ := bnd hf
            refine x_callVi (rest := [.ref (gB G + x22), .ref (gB G + x20)]) [.int u1] (tX0_placeOf x24 u1 q17.2 h27) wY_X0_placeOf wI_X0_placeOf wS_X0_placeOf wL_X6_123 (grd_p h27) (by decide) rfl rfl (Nat.le_of_ble_eq_true rfl) ⟨Nat.le_of_ble_eq_true rfl, Nat.le_of_ble_eq_true rfl⟩ ⟨Nat.le_refl _, Nat.le_refl _⟩ dX6_likely_70 ?_
            refine x_iload_n 2 dX6_likely_73 rfl ?_
            obtain ⟨q28, h29, hf⟩ := bnd hf
            refine x_callVi (rest := [.ref (gB G + x20)]) [.int q26.1, .int u2] (tX0_visitsTo x22 q26.1 u2 q26.2 h29) wY_X0_visitsTo wI_X0_visitsTo wS_X0_visitsTo wL_X6_202 (grd_p h29) (by decide) rfl rfl (Nat.le_of_ble_eq_true rfl) ⟨Nat.le_of_ble_eq_true rfl, Nat.le_of_ble_eq_true rfl⟩ ⟨Nat.le_refl _, Nat.le_refl _⟩ dX6_likely_74 ?_
            refine x_iload_n 3 dX6_likely_77 rfl ?_
            refine x_aload_n 0 dX6_likely_78 rfl ?_
            obtain ⟨x30, h31, hf⟩ := bnd hf
            refine x_getR wF_X6_19 (by decide) (by decide) rfl h31 dX6_likely_79 ?_
            refine x_iload_n 1 dX6_likely_82 rfl ?_
            obtain ⟨q32, h33, hf⟩ := bnd hf
            refine x_callVi (rest := [.int u3, .int q28.1, .ref (gB G + x20)]) [.int u1] (tX0_throwsBorneBy x30 u1 q28.2 h33) wY_X0_throwsBorneBy wI_X0_throwsBorneBy wS_X0_throwsBorneBy wL_X6_206 (grd_p h33) (by decide) rfl rfl (Nat.le_of_ble_eq_true rfl) ⟨Nat.le_of_ble_eq_true rfl, Nat.le_of_ble_eq_true rfl⟩ ⟨Nat.le_refl _, Nat.le_refl _⟩ dX6_likely_83 ?_
            obtain ⟨q34, h35, hf⟩ := bnd hf
            refine x_callVv (rest := []) [.int q28.1, .int u3, .int q32.1] (tX1_reckon x20 q28.1 u3 q32.1 q32.2 h35) wY_X1_reckon wI_X1_reckon wS_X1_reckon wL_X6_209 (grd_p h35) (by decide) rfl rfl (Nat.le_of_ble_eq_true rfl) ⟨Nat.le_of_ble_eq_true rfl, Nat.le_of_ble_eq_true rfl⟩ ⟨Nat.le_refl _, Nat.le_refl _⟩ dX6_likely_86 ?_
            refine x_iload 4 dX6_likely_89 rfl ?_
            refine x_if_ne 104 dX6_likely_91 rfl (fun c36 => ?_) (fun c36 => ?_)
            · rw [if_neg c36] at hf
              refine x_aload_n 0 dX6_likely_104 rfl ?_
              obtain ⟨x37, h38, hf⟩ := bnd hf
              refine x_getR wF_X6_55 (by decide) (by decide) rfl h38 dX6_likely_105 ?_
              obtain ⟨x39, h40, hf⟩ := bnd hf
              refine x_getI wF_X6_216 (by decide) (by decide) rfl h40 dX6_likely_108 ?_
              exact y_iret rfl rfl rfl hf dX6_likely_111
            · rw [if_pos c36] at hf
              refine x_aload_n 0 dX6_likely_94 rfl ?_
              obtain ⟨x41, h42, hf⟩ := bnd hf
              refine x_getR wF_X6_55 (by decide) (by decide) rfl h42 dX6_likely_95 ?_
              obtain ⟨x43, h44, hf⟩ := bnd hf
              refine x_getI wF_X6_213 (by decide) (by decide) rfl h44 dX6_likely_98 ?_
              refine x_goto 111 dX6_likely_101 rfl ?_
              exact y_iret rfl rfl rfl hf dX6_likely_111
          · rw [if_pos c19] at hf
            refine x_bipush (-2) dX6_likely_54 (by decide) ?_
            exact y_iret rfl rfl rfl hf dX6_likely_56
        · rw [if_pos c14] at hf
          refine x_iconst (-1) dX6_likely_41 (by decide) ?_
          exact y_iret rfl rfl rfl hf dX6_likely_42
abbrev LX6_drawOf (G : Gm) (p : Program) (l : Launch) (e : Env) (s : State) (m : MethodId) (args : Array Value) (below : List Frame) (meth : Method) (c : Code) (r : Int32 × Mu) (pc : Nat) (lv : List (Nat × Value)) (st : List Value) (μ : Mu) : Prop := Lt G p l e { frames := 0, cells := 0, slots := 0, locals := 40 * (0) } s m args below meth c cX6_drawOf 4 RX6 (some .int) "drawOf" (MQ below (Qm G (some (.int r.1)) r.2 0) args s 0 0 (fA G)) 0 0 pc lv st μ
def fX6_drawOf (u1 : Int32) (u2 : Int32) (μ : Mu) : Option (Int32 × Mu) := (rmdL ((((7919 * u1.toInt64) + (6151 * u2.toInt64)) + 1) * (((7919 * u1.toInt64) + (6151 * u2.toInt64)) + 1)) 65521).bind fun x1 =>
    (dvdL x1 2).bind fun x3 =>
    some (x3.toInt32, μ)
set_option maxRecDepth 20000 in
theorem tX6_drawOf {G : Gm} {l : Launch} {r : Int32 × Mu} (u1 : Int32) (u2 : Int32) (μ : Mu) (hf : fX6_drawOf u1 u2 μ = some r) : Mt G l yX6_drawOf cX6_drawOf 4 (some .int) (0) 0 0 [.int u1, .int u2] μ (some (.int r.1)) r.2 := by
  rw [fX6_drawOf] at hf
  refine Mt.of (by decide) (Nat.le_of_ble_eq_true rfl) (fun p e s m args below meth c => ?_)
  show LX6_drawOf G p l e s m args below meth c r 0 [(0, .int u1), (1, .int u2)] [] μ
  refine x_ldc2 wCL_X6_241 dX6_drawOf_0 ?_
  refine x_iload_n 0 dX6_drawOf_3 rfl ?_
  refine x_i2l dX6_drawOf_4 ?_
  refine x_lmul dX6_drawOf_5 ?_
  refine x_ldc2 wCL_X6_243 dX6_drawOf_6 ?_
  refine x_iload_n 1 dX6_drawOf_9 rfl ?_
  refine x_i2l dX6_drawOf_10 ?_
  refine x_lmul dX6_drawOf_11 ?_
  refine x_ladd dX6_drawOf_12 ?_
  refine x_lconst 1 dX6_drawOf_13 (by decide) ?_
  refine x_ladd dX6_drawOf_14 ?_
  refine x_lstore_n [1, 2, 0] dX6_drawOf_15 (by decide) (lv' := [(0, .int u1), (1, .int u2), (2, .long (((7919 * u1.toInt64) + (6151 * u2.toInt64)) + 1))]) rfl ?_
  refine x_lload_n 2 dX6_drawOf_16 rfl ?_
  refine x_lload_n 2 dX6_drawOf_17 rfl ?_
  refine x_lmul dX6_drawOf_18 ?_
  refine x_ldc2 wCL_X6_245 dX6_drawOf_19 ?_
  obtain ⟨x1, h2, hf⟩ := bnd hf
  refine x_lrem h2 dX6_drawOf_22 ?_
  refine x_ldc2 wCL_X6_247 dX6_drawOf_23 ?_
  obtain ⟨x3, h4, hf⟩ := bnd hf
  refine x_ldiv h4 dX6_drawOf_26 ?_
  refine x_l2i dX6_drawOf_27 ?_
  exact y_iret rfl rfl rfl hf dX6_drawOf_28
abbrev LX6_decade (G : Gm) (p : Program) (l : Launch) (e : Env) (s : State) (m : MethodId) (args : Array Value) (below : List Frame) (meth : Method) (c : Code) (r : Int32 × Mu) (pc : Nat) (lv : List (Nat × Value)) (st : List Value) (μ : Mu) : Prop := Lt G p l e { frames := 6, cells := 0, slots := 0, locals := 40 * (6) } s m args below meth c cX6_decade 5 RX6 (some .int) "decade" (MQ below (Qm G (some (.int r.1)) r.2 0) args s 0 0 (fA G)) 0 0 pc lv st μ
def fX6_decade_54 : Nat → Nat → Int32 → Int32 → Int32 → Int32 → Mu → Option (Int32 × Mu)
  | 0, _, _, _, _, _, _ => none
  | n + 1, v0, v1, v2, v3, v4, μ => (if v2 ≤ v4 then
    (if v3 = 0 then
    (gR 6 v0 2 μ).bind fun x22 =>
    (fX0_lyingCount x22  μ).bind fun q24 =>
    some (q24.1, q24.2)
    else if v3 = 1 then
    (gR 6 v0 2 μ).bind fun x27 =>
    (fX0_lyingWorth x27  μ).bind fun q29 =>
    some (q29.1, q29.2)
    else (gR 6 v0 2 μ).bind fun x31 =>
    (gI 0 x31 3 μ).bind fun x33 =>
    some (x33, μ))
    else
    (gR 6 v0 2 μ).bind fun x35 =>
    (fX6_drawOf v1 v4 μ).bind fun q37 =>
    (fX0_actByDraw x35 q37.1 q37.2).bind fun q39 =>
    (gR 6 v0 2 q39).bind fun x41 =>
    (fX0_passYears x41 1 q39).bind fun q43 =>
    (fX6_decade_54 n) v0 v1 v2 v3 (v4 + 1) q43.2)
set_option maxRecDepth 20000 in
theorem tX6_decade_54 {G : Gm} {p : Program} {l : Launch} {e : Env} {s : State} {m : MethodId} {args : Array Value} {below : List Frame} {meth : Method} {c : Code} {r : Int32 × Mu} : ∀ (n : Nat) (v0 : Nat) (v1 : Int32) (v2 : Int32) (v3 : Int32) (v4 : Int32) (μ : Mu), fX6_decade_54 n v0 v1 v2 v3 v4 μ = some r → LX6_decade G p l e s m args below meth c r 54 [(0, .ref (gB G + v0)), (1, .int v1), (2, .int v2), (3, .int v3), (4, .int v4)] [] μ := by
  intro n
  induction n with
  | zero =>
    intro v0 v1 v2 v3 v4 μ hf
    simp [fX6_decade_54] at hf
  | succ n ih =>
    intro v0 v1 v2 v3 v4 μ hf
    rw [fX6_decade_54] at hf
    refine x_iload 4 dX6_decade_54 rfl ?_
    refine x_iload_n 2 dX6_decade_56 rfl ?_
    refine x_icmp_ge 88 dX6_decade_57 rfl (fun c20 => ?_) (fun c20 => ?_)
    · rw [if_pos c20] at hf
      refine x_iload_n 3 dX6_decade_88 rfl ?_
      by_cases c21 : v3 = 0
      · rw [if_pos c21] at hf
        refine x_lookup 116 dX6_decade_89 (by decide) (by rw [c21]) rfl ?_
        refine x_aload_n 0 dX6_decade_116 rfl ?_
        obtain ⟨x22, h23, hf⟩ := bnd hf
        refine x_getR wF_X6_23 (by decide) (by decide) rfl h23 dX6_decade_117 ?_
        obtain ⟨q24, h25, hf⟩ := bnd hf
        refine x_callVi (rest := []) [] (tX0_lyingCount x22  μ h25) wY_X0_lyingCount wI_X0_lyingCount wS_X0_lyingCount wL_X6_228 (grd_p h25) (by decide) rfl rfl (Nat.le_of_ble_eq_true rfl) ⟨Nat.le_of_ble_eq_true rfl, Nat.le_of_ble_eq_true rfl⟩ ⟨Nat.le_refl _, Nat.le_refl _⟩ dX6_decade_120 ?_
        exact y_iret rfl rfl rfl hf dX6_decade_123
      rw [if_neg c21] at hf
      by_cases c26 : v3 = 1
      · rw [if_pos c26] at hf
        refine x_lookup 124 dX6_decade_89 (by decide) (by rw [c26]) rfl ?_
        refine x_aload_n 0 dX6_decade_124 rfl ?_
        obtain ⟨x27, h28, hf⟩ := bnd hf
        refine x_getR wF_X6_23 (by decide) (by decide) rfl h28 dX6_decade_125 ?_
        obtain ⟨q29, h30, hf⟩ := bnd hf
        refine x_callVi (rest := []) [] (tX0_lyingWorth x27  μ h30) wY_X0_lyingWorth wI_X0_lyingWorth wS_X0_lyingWorth wL_X6_231 (grd_p h30) (by decide) rfl rfl (Nat.le_of_ble_eq_true rfl) ⟨Nat.le_of_ble_eq_true rfl, Nat.le_of_ble_eq_true rfl⟩ ⟨Nat.le_refl _, Nat.le_refl _⟩ dX6_decade_128 ?_
        exact y_iret rfl rfl rfl hf dX6_decade_131
      rw [if_neg c26] at hf
      refine x_lookup (off := 43) 132 dX6_decade_89 (by decide) (by show Op.lookupswitch.offset [(0, 27), (1, 35)] 43 _ = 43; rw [lv_osw c21 (a := 0) (by decide), lv_osw c26 (a := 1) (by decide)]; rfl) rfl ?_
      refine x_aload_n 0 dX6_decade_132 rfl ?_
      obtain ⟨x31, h32, hf⟩ := bnd hf
      refine x_getR wF_X6_23 (by decide) (by decide) rfl h32 dX6_decade_133 ?_
      obtain ⟨x33, h34, hf⟩ := bnd hf
      refine x_getI wF_X6_219 (by decide) (by decide) rfl h34 dX6_decade_136 ?_
      exact y_iret rfl rfl rfl hf dX6_decade_139
    · rw [if_neg c20] at hf
      refine x_aload_n 0 dX6_decade_60 rfl ?_
      obtain ⟨x35, h36, hf⟩ := bnd hf
      refine x_getR wF_X6_23 (by decide) (by decide) rfl h36 dX6_decade_61 ?_
      refine x_iload_n 1 dX6_decade_64 rfl ?_
      refine x_iload 4 dX6_decade_65 rfl ?_
      obtain ⟨q37, h38, hf⟩ := bnd hf
      refine x_callSi (rest := [.ref (gB G + x35)]) [.int v1, .int v4] (tX6_drawOf v1 v4 μ h38) wY_X6_drawOf wT_X6_drawOf wL_X6_222 rfl (Nat.le_of_ble_eq_true rfl) ⟨Nat.le_of_ble_eq_true rfl, Nat.le_of_ble_eq_true rfl⟩ ⟨Nat.le_refl _, Nat.le_refl _⟩ dX6_decade_67 ?_
      obtain ⟨q39, h40, hf⟩ := bnd hf
      refine x_callVv (rest := []) [.int q37.1] (tX0_actByDraw x35 q37.1 q37.2 h40) wY_X0_actByDraw wI_X0_actByDraw wS_X0_actByDraw wL_X6_225 (grd_p h40) (by decide) rfl rfl (Nat.le_of_ble_eq_true rfl) ⟨Nat.le_of_ble_eq_true rfl, Nat.le_of_ble_eq_true rfl⟩ ⟨Nat.le_refl _, Nat.le_refl _⟩ dX6_decade_70 ?_
      refine x_aload_n 0 dX6_decade_73 rfl ?_
      obtain ⟨x41, h42, hf⟩ := bnd hf
      refine x_getR wF_X6_23 (by decide) (by decide) rfl h42 dX6_decade_74 ?_
      refine x_iconst 1 dX6_decade_77 (by decide) ?_
      obtain ⟨q43, h44, hf⟩ := bnd hf
      refine x_callVi (rest := []) [.int 1] (tX0_passYears x41 1 q39 h44) wY_X0_passYears wI_X0_passYears wS_X0_passYears wL_X6_149 (grd_p h44) (by decide) rfl rfl (Nat.le_of_ble_eq_true rfl) ⟨Nat.le_of_ble_eq_true rfl, Nat.le_of_ble_eq_true rfl⟩ ⟨Nat.le_refl _, Nat.le_refl _⟩ dX6_decade_78 ?_
      refine x_pop dX6_decade_81 rfl ?_
      refine x_iinc 4 (v4 + 1) [1, 2, 3, 4, 0] dX6_decade_82 rfl rfl (by decide) (lv' := [(0, .ref (gB G + v0)), (1, .int v1), (2, .int v2), (3, .int v3), (4, .int (v4 + 1))]) rfl ?_
      refine x_goto 54 dX6_decade_85 rfl ?_
      exact ih v0 v1 v2 v3 (v4 + 1) q43.2 hf
def fX6_decade (a : Nat) (u1 : Int32) (u2 : Int32) (u3 : Int32) (μ : Mu) : Option (Int32 × Mu) := grd (isO 6 a μ) ((fX6_isWithin u1 0 9999 μ).bind fun q1 =>
    (if q1.1 = 0 then
    some ((-1), q1.2)
    else
    (fX6_isWithin u2 1 60 q1.2).bind fun q4 =>
    (if q4.1 = 0 then
    some ((-1), q4.2)
    else
    (fX6_isWithin u3 0 2 q4.2).bind fun q7 =>
    (if q7.1 = 0 then
    some ((-1), q7.2)
    else
    (gR 6 a 2 q7.2).bind fun x10 =>
    (gR 6 a 1 q7.2).bind fun x12 =>
    (fX0_copyFrom x10 x12 q7.2).bind fun q14 =>
    (gR 6 a 2 q14).bind fun x16 =>
    (pI 0 x16 3 0 q14).bind fun m18 =>
    fX6_decade_54  FU a u1 u2 u3 0 m18))))
set_option maxRecDepth 20000 in
theorem tX6_decade {G : Gm} {l : Launch} {r : Int32 × Mu} (a : Nat) (u1 : Int32) (u2 : Int32) (u3 : Int32) (μ : Mu) (hf : fX6_decade a u1 u2 u3 μ = some r) : Mt G l yX6_decade cX6_decade 5 (some .int) (6) 0 0 [.ref (gB G + a), .int u1, .int u2, .int u3] μ (some (.int r.1)) r.2 := by
  rw [fX6_decade] at hf
  have hf := grd_v hf
  refine Mt.of (by decide) (Nat.le_of_ble_eq_true rfl) (fun p e s m args below meth c => ?_)
  show LX6_decade G p l e s m args below meth c r 0 [(0, .ref (gB G + a)), (1, .int u1), (2, .int u2), (3, .int u3)] [] μ
  refine x_iload_n 1 dX6_decade_0 rfl ?_
  refine x_iconst 0 dX6_decade_1 (by decide) ?_
  refine x_sipush 9999 dX6_decade_2 (by decide) ?_
  obtain ⟨q1, h2, hf⟩ := bnd hf
  refine x_callSi (rest := []) [.int u1, .int 0, .int 9999] (tX6_isWithin u1 0 9999 μ h2) wY_X6_isWithin wT_X6_isWithin wL_X6_139 rfl (Nat.le_of_ble_eq_true rfl) ⟨Nat.le_of_ble_eq_true rfl, Nat.le_of_ble_eq_true rfl⟩ ⟨Nat.le_refl _, Nat.le_refl _⟩ dX6_decade_5 ?_
  refine x_if_eq 30 dX6_decade_8 rfl (fun c3 => ?_) (fun c3 => ?_)
  · rw [if_pos c3] at hf
    refine x_iconst (-1) dX6_decade_30 (by decide) ?_
    exact y_iret rfl rfl rfl hf dX6_decade_31
  · rw [if_neg c3] at hf
    refine x_iload_n 2 dX6_decade_11 rfl ?_
    refine x_iconst 1 dX6_decade_12 (by decide) ?_
    refine x_bipush 60 dX6_decade_13 (by decide) ?_
    obtain ⟨q4, h5, hf⟩ := bnd hf
    refine x_callSi (rest := []) [.int u2, .int 1, .int 60] (tX6_isWithin u2 1 60 q1.2 h5) wY_X6_isWithin wT_X6_isWithin wL_X6_139 rfl (Nat.le_of_ble_eq_true rfl) ⟨Nat.le_of_ble_eq_true rfl, Nat.le_of_ble_eq_true rfl⟩ ⟨Nat.le_refl _, Nat.le_refl _⟩ dX6_decade_15 ?_
    refine x_if_eq 30 dX6_decade_18 rfl (fun c6 => ?_) (fun c6 => ?_)
    · rw [if_pos c6] at hf
      refine x_iconst (-1) dX6_decade_30 (by decide) ?_
      exact y_iret rfl rfl rfl hf dX6_decade_31
    · rw [if_neg c6] at hf
      refine x_iload_n 3 dX6_decade_21 rfl ?_
      refine x_iconst 0 dX6_decade_22 (by decide) ?_
      refine x_iconst 2 dX6_decade_23 (by decide) ?_
      obtain ⟨q7, h8, hf⟩ := bnd hf
      refine x_callSi (rest := []) [.int u3, .int 0, .int 2] (tX6_isWithin u3 0 2 q4.2 h8) wY_X6_isWithin wT_X6_isWithin wL_X6_139 rfl (Nat.le_of_ble_eq_true rfl) ⟨Nat.le_of_ble_eq_true rfl, Nat.le_of_ble_eq_true rfl⟩ ⟨Nat.le_refl _, Nat.le_refl _⟩ dX6_decade_24 ?_
      refine x_if_ne 32 dX6_decade_27 rfl (fun c9 => ?_) (fun c9 => ?_)
      · rw [if_neg c9] at hf
        refine x_aload_n 0 dX6_decade_32 rfl ?_
        obtain ⟨x10, h11, hf⟩ := bnd hf
        refine x_getR wF_X6_23 (by decide) (by decide) rfl h11 dX6_decade_33 ?_
        refine x_aload_n 0 dX6_decade_36 rfl ?_
        obtain ⟨x12, h13, hf⟩ := bnd hf
        refine x_getR wF_X6_19 (by decide) (by decide) rfl h13 dX6_decade_37 ?_
        obtain ⟨q14, h15, hf⟩ := bnd hf
        refine x_callVv (rest := []) [.ref (gB G + x12)] (tX0_copyFrom x10 x12 q7.2 h15) wY_X0_copyFrom wI_X0_copyFrom wS_X0_copyFrom wL_X6_91 (grd_p h15) (by decide) rfl rfl (Nat.le_of_ble_eq_true rfl) ⟨Nat.le_of_ble_eq_true rfl, Nat.le_of_ble_eq_true rfl⟩ ⟨Nat.le_refl _, Nat.le_refl _⟩ dX6_decade_40 ?_
        refine x_aload_n 0 dX6_decade_43 rfl ?_
        obtain ⟨x16, h17, hf⟩ := bnd hf
        refine x_getR wF_X6_23 (by decide) (by decide) rfl h17 dX6_decade_44 ?_
        refine x_iconst 0 dX6_decade_47 (by decide) ?_
        obtain ⟨m18, h19, hf⟩ := bnd hf
        refine x_putI wF_X6_219 (by decide) (by decide) rfl rfl h19 dX6_decade_48 ?_
        refine x_iconst 0 dX6_decade_51 (by decide) ?_
        refine x_istore [1, 2, 3, 4, 0] dX6_decade_52 (by decide) (lv' := [(0, .ref (gB G + a)), (1, .int u1), (2, .int u2), (3, .int u3), (4, .int 0)]) rfl ?_
        exact tX6_decade_54  FU a u1 u2 u3 0 m18 hf
      · rw [if_pos c9] at hf
        refine x_iconst (-1) dX6_decade_30 (by decide) ?_
        exact y_iret rfl rfl rfl hf dX6_decade_31
abbrev LX6_keep (G : Gm) (p : Program) (l : Launch) (e : Env) (s : State) (m : MethodId) (args : Array Value) (below : List Frame) (meth : Method) (c : Code) (r : Int32 × Mu) (pc : Nat) (lv : List (Nat × Value)) (st : List Value) (μ : Mu) : Prop := Lt G p l e { frames := 2, cells := 0, slots := 0, locals := 40 * (2) } s m args below meth c cX6_keep 1 RX6 (some .int) "keep" (MQ below (Qm G (some (.int r.1)) r.2 0) args s 0 0 (fA G)) 0 0 pc lv st μ
def fX6_keep (a : Nat) (μ : Mu) : Option (Int32 × Mu) := grd (isO 6 a μ) ((gR 6 a 4 μ).bind fun x1 =>
    (fX4_isFull x1  μ).bind fun q3 =>
    (if q3.1 = 0 then
    (gR 6 a 4 q3.2).bind fun x6 =>
    (gR 6 a 1 q3.2).bind fun x8 =>
    (fX4_store x6 x8 q3.2).bind fun q10 =>
    (gR 6 a 4 q10).bind fun x12 =>
    (gI 4 x12 0 q10).bind fun x14 =>
    some (x14, q10)
    else
    some ((-3), q3.2)))
set_option maxRecDepth 20000 in
theorem tX6_keep {G : Gm} {l : Launch} {r : Int32 × Mu} (a : Nat) (μ : Mu) (hf : fX6_keep a μ = some r) : Mt G l yX6_keep cX6_keep 1 (some .int) (2) 0 0 [.ref (gB G + a)] μ (some (.int r.1)) r.2 := by
  rw [fX6_keep] at hf
  have hf := grd_v hf
  refine Mt.of (by decide) (Nat.le_of_ble_eq_true rfl) (fun p e s m args below meth c => ?_)
  show LX6_keep G p l e s m args below meth c r 0 [(0, .ref (gB G + a))] [] μ
  refine x_aload_n 0 dX6_keep_0 rfl ?_
  obtain ⟨x1, h2, hf⟩ := bnd hf
  refine x_getR wF_X6_35 (by decide) (by decide) rfl h2 dX6_keep_1 ?_
  obtain ⟨q3, h4, hf⟩ := bnd hf
  refine x_callVi (rest := []) [] (tX4_isFull x1  μ h4) wY_X4_isFull wI_X4_isFull wS_X4_isFull wL_X6_234 (grd_p h4) (by decide) rfl rfl (Nat.le_of_ble_eq_true rfl) ⟨Nat.le_of_ble_eq_true rfl, Nat.le_of_ble_eq_true rfl⟩ ⟨Nat.le_refl _, Nat.le_refl _⟩ dX6_keep_4 ?_
  refine x_if_eq 13 dX6_keep_7 rfl (fun c5 => ?_) (fun c5 => ?_)
  · rw [if_pos c5] at hf
    refine x_aload_n 0 dX6_keep_13 rfl ?_
    obtain ⟨x6, h7, hf⟩ := bnd hf
    refine x_getR wF_X6_35 (by decide) (by decide) rfl h7 dX6_keep_14 ?_
    refine x_aload_n 0 dX6_keep_17 rfl ?_
    obtain ⟨x8, h9, hf⟩ := bnd hf
    refine x_getR wF_X6_19 (by decide) (by decide) rfl h9 dX6_keep_18 ?_
    obtain ⟨q10, h11, hf⟩ := bnd hf
    refine x_callVv (rest := []) [.ref (gB G + x8)] (tX4_store x6 x8 q3.2 h11) wY_X4_store wI_X4_store wS_X4_store wL_X6_146 (grd_p h11) (by decide) rfl rfl (Nat.le_of_ble_eq_true rfl) ⟨Nat.le_of_ble_eq_true rfl, Nat.le_of_ble_eq_true rfl⟩ ⟨Nat.le_refl _, Nat.le_refl _⟩ dX6_keep_21 ?_
    refine x_aload_n 0 dX6_keep_24 rfl ?_
    obtain ⟨x12, h13, hf⟩ := bnd hf
    refine x_getR wF_X6_35 (by decide) (by decide) rfl h13 dX6_keep_25 ?_
    obtain ⟨x14, h15, hf⟩ := bnd hf
    refine x_getI wF_X6_169 (by decide) (by decide) rfl h15 dX6_keep_28 ?_
    exact y_iret rfl rfl rfl hf dX6_keep_31
  · rw [if_neg c5] at hf
    refine x_bipush (-3) dX6_keep_10 (by decide) ?_
    exact y_iret rfl rfl rfl hf dX6_keep_12
abbrev LX6_back (G : Gm) (p : Program) (l : Launch) (e : Env) (s : State) (m : MethodId) (args : Array Value) (below : List Frame) (meth : Method) (c : Code) (r : Int32 × Mu) (pc : Nat) (lv : List (Nat × Value)) (st : List Value) (μ : Mu) : Prop := Lt G p l e { frames := 2, cells := 0, slots := 0, locals := 40 * (2) } s m args below meth c cX6_back 1 RX6 (some .int) "back" (MQ below (Qm G (some (.int r.1)) r.2 0) args s 0 0 (fA G)) 0 0 pc lv st μ
def fX6_back (a : Nat) (μ : Mu) : Option (Int32 × Mu) := grd (isO 6 a μ) ((gR 6 a 4 μ).bind fun x1 =>
    (gR 6 a 1 μ).bind fun x3 =>
    (fX4_fetchInto x1 x3 μ).bind fun q5 =>
    (if q5.1 = 0 then
    some ((-2), q5.2)
    else
    (gR 6 a 3 q5.2).bind fun x8 =>
    (fX4_empty x8  q5.2).bind fun q10 =>
    (gR 6 a 4 q10).bind fun x12 =>
    (gI 4 x12 0 q10).bind fun x14 =>
    some (x14, q10)))
set_option maxRecDepth 20000 in
theorem tX6_back {G : Gm} {l : Launch} {r : Int32 × Mu} (a : Nat) (μ : Mu) (hf : fX6_back a μ = some r) : Mt G l yX6_back cX6_back 1 (some .int) (2) 0 0 [.ref (gB G + a)] μ (some (.int r.1)) r.2 := by
  rw [fX6_back] at hf
  have hf := grd_v hf
  refine Mt.of (by decide) (Nat.le_of_ble_eq_true rfl) (fun p e s m args below meth c => ?_)
  show LX6_back G p l e s m args below meth c r 0 [(0, .ref (gB G + a))] [] μ
  refine x_aload_n 0 dX6_back_0 rfl ?_
  obtain ⟨x1, h2, hf⟩ := bnd hf
  refine x_getR wF_X6_35 (by decide) (by decide) rfl h2 dX6_back_1 ?_
  refine x_aload_n 0 dX6_back_4 rfl ?_
  obtain ⟨x3, h4, hf⟩ := bnd hf
  refine x_getR wF_X6_19 (by decide) (by decide) rfl h4 dX6_back_5 ?_
  obtain ⟨q5, h6, hf⟩ := bnd hf
  refine x_callVi (rest := []) [.ref (gB G + x3)] (tX4_fetchInto x1 x3 μ h6) wY_X4_fetchInto wI_X4_fetchInto wS_X4_fetchInto wL_X6_165 (grd_p h6) (by decide) rfl rfl (Nat.le_of_ble_eq_true rfl) ⟨Nat.le_of_ble_eq_true rfl, Nat.le_of_ble_eq_true rfl⟩ ⟨Nat.le_refl _, Nat.le_refl _⟩ dX6_back_8 ?_
  refine x_if_ne 17 dX6_back_11 rfl (fun c7 => ?_) (fun c7 => ?_)
  · rw [if_neg c7] at hf
    refine x_aload_n 0 dX6_back_17 rfl ?_
    obtain ⟨x8, h9, hf⟩ := bnd hf
    refine x_getR wF_X6_31 (by decide) (by decide) rfl h9 dX6_back_18 ?_
    obtain ⟨q10, h11, hf⟩ := bnd hf
    refine x_callVv (rest := []) [] (tX4_empty x8  q5.2 h11) wY_X4_empty wI_X4_empty wS_X4_empty wL_X6_95 (grd_p h11) (by decide) rfl rfl (Nat.le_of_ble_eq_true rfl) ⟨Nat.le_of_ble_eq_true rfl, Nat.le_of_ble_eq_true rfl⟩ ⟨Nat.le_refl _, Nat.le_refl _⟩ dX6_back_21 ?_
    refine x_aload_n 0 dX6_back_24 rfl ?_
    obtain ⟨x12, h13, hf⟩ := bnd hf
    refine x_getR wF_X6_35 (by decide) (by decide) rfl h13 dX6_back_25 ?_
    obtain ⟨x14, h15, hf⟩ := bnd hf
    refine x_getI wF_X6_169 (by decide) (by decide) rfl h15 dX6_back_28 ?_
    exact y_iret rfl rfl rfl hf dX6_back_31
  · rw [if_pos c7] at hf
    refine x_bipush (-2) dX6_back_14 (by decide) ?_
    exact y_iret rfl rfl rfl hf dX6_back_16
abbrev LX6_count (G : Gm) (p : Program) (l : Launch) (e : Env) (s : State) (m : MethodId) (args : Array Value) (below : List Frame) (meth : Method) (c : Code) (r : Int32 × Mu) (pc : Nat) (lv : List (Nat × Value)) (st : List Value) (μ : Mu) : Prop := Lt G p l e { frames := 3, cells := 0, slots := 0, locals := 40 * (3) } s m args below meth c cX6_count 2 RX6 (some .int) "count" (MQ below (Qm G (some (.int r.1)) r.2 0) args s 0 0 (fA G)) 0 0 pc lv st μ
def fX6_count (a : Nat) (u1 : Int32) (μ : Mu) : Option (Int32 × Mu) := grd (isO 6 a μ) ((if u1 = 0 then
    (gR 6 a 1 μ).bind fun x2 =>
    (gI 0 x2 0 μ).bind fun x4 =>
    some (x4, μ)
    else if u1 = 1 then
    (gR 6 a 1 μ).bind fun x7 =>
    (gI 0 x7 1 μ).bind fun x9 =>
    some (x9, μ)
    else if u1 = 2 then
    (gR 6 a 1 μ).bind fun x12 =>
    (gI 0 x12 2 μ).bind fun x14 =>
    some (x14, μ)
    else if u1 = 3 then
    (gR 6 a 1 μ).bind fun x17 =>
    (fX0_lyingCount x17  μ).bind fun q19 =>
    some (q19.1, q19.2)
    else if u1 = 4 then
    (gR 6 a 1 μ).bind fun x22 =>
    (fX0_lyingWorth x22  μ).bind fun q24 =>
    some (q24.1, q24.2)
    else if u1 = 5 then
    (gR 6 a 1 μ).bind fun x27 =>
    (fX0_isFrost x27  μ).bind fun q29 =>
    (if q29.1 = 0 then
    some (0, q29.2)
    else
    some (1, q29.2))
    else if u1 = 6 then
    (gR 6 a 1 μ).bind fun x33 =>
    (gI 0 x33 3 μ).bind fun x35 =>
    some (x35, μ)
    else if u1 = 7 then
    (gR 6 a 5 μ).bind fun x38 =>
    (gI 5 x38 0 μ).bind fun x40 =>
    some (x40, μ)
    else if u1 = 8 then
    (gR 6 a 3 μ).bind fun x43 =>
    (gI 4 x43 0 μ).bind fun x45 =>
    some (x45, μ)
    else if u1 = 9 then
    (gR 6 a 4 μ).bind fun x48 =>
    (gI 4 x48 0 μ).bind fun x50 =>
    some (x50, μ)
    else if u1 = 10 then
    (gR 6 a 0 μ).bind fun x53 =>
    (gI 3 x53 0 μ).bind fun x55 =>
    some (x55, μ)
    else some ((-1), μ)))
set_option maxRecDepth 20000 in
theorem tX6_count {G : Gm} {l : Launch} {r : Int32 × Mu} (a : Nat) (u1 : Int32) (μ : Mu) (hf : fX6_count a u1 μ = some r) : Mt G l yX6_count cX6_count 2 (some .int) (3) 0 0 [.ref (gB G + a), .int u1] μ (some (.int r.1)) r.2 := by
  rw [fX6_count] at hf
  have hf := grd_v hf
  refine Mt.of (by decide) (Nat.le_of_ble_eq_true rfl) (fun p e s m args below meth c => ?_)
  show LX6_count G p l e s m args below meth c r 0 [(0, .ref (gB G + a)), (1, .int u1)] [] μ
  refine x_iload_n 1 dX6_count_0 rfl ?_
  by_cases c1 : u1 = 0
  · rw [if_pos c1] at hf
    refine x_tableIn 60 dX6_count_1 (by rw [c1]; decide) (by rw [c1]; decide) (by rw [c1]; rfl) rfl ?_
    refine x_aload_n 0 dX6_count_60 rfl ?_
    obtain ⟨x2, h3, hf⟩ := bnd hf
    refine x_getR wF_X6_19 (by decide) (by decide) rfl h3 dX6_count_61 ?_
    obtain ⟨x4, h5, hf⟩ := bnd hf
    refine x_getI wF_X6_85 (by decide) (by decide) rfl h5 dX6_count_64 ?_
    exact y_iret rfl rfl rfl hf dX6_count_67
  rw [if_neg c1] at hf
  by_cases c6 : u1 = 1
  · rw [if_pos c6] at hf
    refine x_tableIn 68 dX6_count_1 (by rw [c6]; decide) (by rw [c6]; decide) (by rw [c6]; rfl) rfl ?_
    refine x_aload_n 0 dX6_count_68 rfl ?_
    obtain ⟨x7, h8, hf⟩ := bnd hf
    refine x_getR wF_X6_19 (by decide) (by decide) rfl h8 dX6_count_69 ?_
    obtain ⟨x9, h10, hf⟩ := bnd hf
    refine x_getI wF_X6_88 (by decide) (by decide) rfl h10 dX6_count_72 ?_
    exact y_iret rfl rfl rfl hf dX6_count_75
  rw [if_neg c6] at hf
  by_cases c11 : u1 = 2
  · rw [if_pos c11] at hf
    refine x_tableIn 76 dX6_count_1 (by rw [c11]; decide) (by rw [c11]; decide) (by rw [c11]; rfl) rfl ?_
    refine x_aload_n 0 dX6_count_76 rfl ?_
    obtain ⟨x12, h13, hf⟩ := bnd hf
    refine x_getR wF_X6_19 (by decide) (by decide) rfl h13 dX6_count_77 ?_
    obtain ⟨x14, h15, hf⟩ := bnd hf
    refine x_getI wF_X6_143 (by decide) (by decide) rfl h15 dX6_count_80 ?_
    exact y_iret rfl rfl rfl hf dX6_count_83
  rw [if_neg c11] at hf
  by_cases c16 : u1 = 3
  · rw [if_pos c16] at hf
    refine x_tableIn 84 dX6_count_1 (by rw [c16]; decide) (by rw [c16]; decide) (by rw [c16]; rfl) rfl ?_
    refine x_aload_n 0 dX6_count_84 rfl ?_
    obtain ⟨x17, h18, hf⟩ := bnd hf
    refine x_getR wF_X6_19 (by decide) (by decide) rfl h18 dX6_count_85 ?_
    obtain ⟨q19, h20, hf⟩ := bnd hf
    refine x_callVi (rest := []) [] (tX0_lyingCount x17  μ h20) wY_X0_lyingCount wI_X0_lyingCount wS_X0_lyingCount wL_X6_228 (grd_p h20) (by decide) rfl rfl (Nat.le_of_ble_eq_true rfl) ⟨Nat.le_of_ble_eq_true rfl, Nat.le_of_ble_eq_true rfl⟩ ⟨Nat.le_refl _, Nat.le_refl _⟩ dX6_count_88 ?_
    exact y_iret rfl rfl rfl hf dX6_count_91
  rw [if_neg c16] at hf
  by_cases c21 : u1 = 4
  · rw [if_pos c21] at hf
    refine x_tableIn 92 dX6_count_1 (by rw [c21]; decide) (by rw [c21]; decide) (by rw [c21]; rfl) rfl ?_
    refine x_aload_n 0 dX6_count_92 rfl ?_
    obtain ⟨x22, h23, hf⟩ := bnd hf
    refine x_getR wF_X6_19 (by decide) (by decide) rfl h23 dX6_count_93 ?_
    obtain ⟨q24, h25, hf⟩ := bnd hf
    refine x_callVi (rest := []) [] (tX0_lyingWorth x22  μ h25) wY_X0_lyingWorth wI_X0_lyingWorth wS_X0_lyingWorth wL_X6_231 (grd_p h25) (by decide) rfl rfl (Nat.le_of_ble_eq_true rfl) ⟨Nat.le_of_ble_eq_true rfl, Nat.le_of_ble_eq_true rfl⟩ ⟨Nat.le_refl _, Nat.le_refl _⟩ dX6_count_96 ?_
    exact y_iret rfl rfl rfl hf dX6_count_99
  rw [if_neg c21] at hf
  by_cases c26 : u1 = 5
  · rw [if_pos c26] at hf
    refine x_tableIn 100 dX6_count_1 (by rw [c26]; decide) (by rw [c26]; decide) (by rw [c26]; rfl) rfl ?_
    refine x_aload_n 0 dX6_count_100 rfl ?_
    obtain ⟨x27, h28, hf⟩ := bnd hf
    refine x_getR wF_X6_19 (by decide) (by decide) rfl h28 dX6_count_101 ?_
    obtain ⟨q29, h30, hf⟩ := bnd hf
    refine x_callVi (rest := []) [] (tX0_isFrost x27  μ h30) wY_X0_isFrost wI_X0_isFrost wS_X0_isFrost wL_X6_238 (grd_p h30) (by decide) rfl rfl (Nat.le_of_ble_eq_true rfl) ⟨Nat.le_of_ble_eq_true rfl, Nat.le_of_ble_eq_true rfl⟩ ⟨Nat.le_refl _, Nat.le_refl _⟩ dX6_count_104 ?_
    refine x_if_eq 114 dX6_count_107 rfl (fun c31 => ?_) (fun c31 => ?_)
    · rw [if_pos c31] at hf
      refine x_iconst 0 dX6_count_114 (by decide) ?_
      exact y_iret rfl rfl rfl hf dX6_count_115
    · rw [if_neg c31] at hf
      refine x_iconst 1 dX6_count_110 (by decide) ?_
      refine x_goto 115 dX6_count_111 rfl ?_
      exact y_iret rfl rfl rfl hf dX6_count_115
  rw [if_neg c26] at hf
  by_cases c32 : u1 = 6
  · rw [if_pos c32] at hf
    refine x_tableIn 116 dX6_count_1 (by rw [c32]; decide) (by rw [c32]; decide) (by rw [c32]; rfl) rfl ?_
    refine x_aload_n 0 dX6_count_116 rfl ?_
    obtain ⟨x33, h34, hf⟩ := bnd hf
    refine x_getR wF_X6_19 (by decide) (by decide) rfl h34 dX6_count_117 ?_
    obtain ⟨x35, h36, hf⟩ := bnd hf
    refine x_getI wF_X6_219 (by decide) (by decide) rfl h36 dX6_count_120 ?_
    exact y_iret rfl rfl rfl hf dX6_count_123
  rw [if_neg c32] at hf
  by_cases c37 : u1 = 7
  · rw [if_pos c37] at hf
    refine x_tableIn 124 dX6_count_1 (by rw [c37]; decide) (by rw [c37]; decide) (by rw [c37]; rfl) rfl ?_
    refine x_aload_n 0 dX6_count_124 rfl ?_
    obtain ⟨x38, h39, hf⟩ := bnd hf
    refine x_getR wF_X6_41 (by decide) (by decide) rfl h39 dX6_count_125 ?_
    obtain ⟨x40, h41, hf⟩ := bnd hf
    refine x_getI wF_X6_195 (by decide) (by decide) rfl h41 dX6_count_128 ?_
    exact y_iret rfl rfl rfl hf dX6_count_131
  rw [if_neg c37] at hf
  by_cases c42 : u1 = 8
  · rw [if_pos c42] at hf
    refine x_tableIn 132 dX6_count_1 (by rw [c42]; decide) (by rw [c42]; decide) (by rw [c42]; rfl) rfl ?_
    refine x_aload_n 0 dX6_count_132 rfl ?_
    obtain ⟨x43, h44, hf⟩ := bnd hf
    refine x_getR wF_X6_31 (by decide) (by decide) rfl h44 dX6_count_133 ?_
    obtain ⟨x45, h46, hf⟩ := bnd hf
    refine x_getI wF_X6_169 (by decide) (by decide) rfl h46 dX6_count_136 ?_
    exact y_iret rfl rfl rfl hf dX6_count_139
  rw [if_neg c42] at hf
  by_cases c47 : u1 = 9
  · rw [if_pos c47] at hf
    refine x_tableIn 140 dX6_count_1 (by rw [c47]; decide) (by rw [c47]; decide) (by rw [c47]; rfl) rfl ?_
    refine x_aload_n 0 dX6_count_140 rfl ?_
    obtain ⟨x48, h49, hf⟩ := bnd hf
    refine x_getR wF_X6_35 (by decide) (by decide) rfl h49 dX6_count_141 ?_
    obtain ⟨x50, h51, hf⟩ := bnd hf
    refine x_getI wF_X6_169 (by decide) (by decide) rfl h51 dX6_count_144 ?_
    exact y_iret rfl rfl rfl hf dX6_count_147
  rw [if_neg c47] at hf
  by_cases c52 : u1 = 10
  · rw [if_pos c52] at hf
    refine x_tableIn 148 dX6_count_1 (by rw [c52]; decide) (by rw [c52]; decide) (by rw [c52]; rfl) rfl ?_
    refine x_aload_n 0 dX6_count_148 rfl ?_
    obtain ⟨x53, h54, hf⟩ := bnd hf
    refine x_getR wF_X6_12 (by decide) (by decide) rfl h54 dX6_count_149 ?_
    obtain ⟨x55, h56, hf⟩ := bnd hf
    refine x_getI wF_X6_82 (by decide) (by decide) rfl h56 dX6_count_152 ?_
    exact y_iret rfl rfl rfl hf dX6_count_155
  rw [if_neg c52] at hf
  refine x_tableOut 156 dX6_count_1 (tsw_out 11 (by decide) (fun j hj => ?_)) rfl ?_
  · match j, hj with
    | 0, _ => exact c1
    | 1, _ => exact c6
    | 2, _ => exact c11
    | 3, _ => exact c16
    | 4, _ => exact c21
    | 5, _ => exact c26
    | 6, _ => exact c32
    | 7, _ => exact c37
    | 8, _ => exact c42
    | 9, _ => exact c47
    | 10, _ => exact c52
  · refine x_iconst (-1) dX6_count_156 (by decide) ?_
    exact y_iret rfl rfl rfl hf dX6_count_157
abbrev LX6_packs (G : Gm) (p : Program) (l : Launch) (e : Env) (s : State) (m : MethodId) (args : Array Value) (below : List Frame) (meth : Method) (c : Code) (r : Int32 × Mu) (pc : Nat) (lv : List (Nat × Value)) (st : List Value) (μ : Mu) : Prop := Lt G p l e { frames := 30, cells := 0, slots := 0, locals := 40 * (30) } s m args below meth c cX6_packs 3 RX6 (some .int) "packs" (MQ below (Qm G (some (.int r.1)) r.2 0) args s 0 0 (fA G)) 0 0 pc lv st μ
def fX6_packs_18 (v0 : Nat) (v1 : Int32) (μ : Mu) : Option (Int32 × Mu) := (gR 6 v0 6 μ).bind fun x2 =>
    (gR 6 v0 1 μ).bind fun x4 =>
    (fX2_mostOf x2 x4 (-1) μ).bind fun q6 =>
    (if v1 = (-1) then
    some (q6.1, q6.2)
    else
    (gR 6 v0 6 q6.2).bind fun x9 =>
    (fX2_placeOf x9 v1 q6.2).bind fun q11 =>
    some (q11.1, q11.2))
set_option maxRecDepth 20000 in
theorem tX6_packs_18 {G : Gm} {p : Program} {l : Launch} {e : Env} {s : State} {m : MethodId} {args : Array Value} {below : List Frame} {meth : Method} {c : Code} {r : Int32 × Mu} (v0 : Nat) (v1 : Int32) (μ : Mu) (hf : fX6_packs_18 v0 v1 μ = some r) : LX6_packs G p l e s m args below meth c r 18 [(0, .ref (gB G + v0)), (1, .int v1)] [] μ := by
  rw [fX6_packs_18] at hf
  refine x_aload_n 0 dX6_packs_18 rfl ?_
  obtain ⟨x2, h3, hf⟩ := bnd hf
  refine x_getR wF_X6_48 (by decide) (by decide) rfl h3 dX6_packs_19 ?_
  refine x_aload_n 0 dX6_packs_22 rfl ?_
  obtain ⟨x4, h5, hf⟩ := bnd hf
  refine x_getR wF_X6_19 (by decide) (by decide) rfl h5 dX6_packs_23 ?_
  refine x_iconst (-1) dX6_packs_26 (by decide) ?_
  obtain ⟨q6, h7, hf⟩ := bnd hf
  refine x_callVi (rest := []) [.ref (gB G + x4), .int (-1)] (tX2_mostOf x2 x4 (-1) μ h7) wY_X2_mostOf wI_X2_mostOf wS_X2_mostOf wL_X6_175 (grd_p h7) (by decide) rfl rfl (Nat.le_of_ble_eq_true rfl) ⟨Nat.le_of_ble_eq_true rfl, Nat.le_of_ble_eq_true rfl⟩ ⟨Nat.le_refl _, Nat.le_refl _⟩ dX6_packs_27 ?_
  refine x_istore_n [1, 2, 0] dX6_packs_30 (by decide) (lv' := [(0, .ref (gB G + v0)), (1, .int v1), (2, .int q6.1)]) rfl ?_
  refine x_iload_n 1 dX6_packs_31 rfl ?_
  refine x_iconst (-1) dX6_packs_32 (by decide) ?_
  refine x_icmp_ne 40 dX6_packs_33 rfl (fun c8 => ?_) (fun c8 => ?_)
  · rw [if_neg c8] at hf
    refine x_aload_n 0 dX6_packs_40 rfl ?_
    obtain ⟨x9, h10, hf⟩ := bnd hf
    refine x_getR wF_X6_48 (by decide) (by decide) rfl h10 dX6_packs_41 ?_
    refine x_iload_n 1 dX6_packs_44 rfl ?_
    obtain ⟨q11, h12, hf⟩ := bnd hf
    refine x_callVi (rest := []) [.int v1] (tX2_placeOf x9 v1 q6.2 h12) wY_X2_placeOf wI_X2_placeOf wS_X2_placeOf wL_X6_179 (grd_p h12) (by decide) rfl rfl (Nat.le_of_ble_eq_true rfl) ⟨Nat.le_of_ble_eq_true rfl, Nat.le_of_ble_eq_true rfl⟩ ⟨Nat.le_refl _, Nat.le_refl _⟩ dX6_packs_45 ?_
    exact y_iret rfl rfl rfl hf dX6_packs_48
  · rw [if_pos c8] at hf
    refine x_iload_n 2 dX6_packs_36 rfl ?_
    refine x_goto 48 dX6_packs_37 rfl ?_
    exact y_iret rfl rfl rfl hf dX6_packs_48
def fX6_packs (a : Nat) (u1 : Int32) (μ : Mu) : Option (Int32 × Mu) := grd (isO 6 a μ) ((if u1 = (-1) then
    fX6_packs_18  a u1 μ
    else
    (gR 6 a 1 μ).bind fun x13 =>
    (fX0_hasHour x13 u1 μ).bind fun q15 =>
    (if q15.1 = 0 then
    some ((-1), q15.2)
    else
    fX6_packs_18  a u1 q15.2)))
set_option maxRecDepth 20000 in
theorem tX6_packs {G : Gm} {l : Launch} {r : Int32 × Mu} (a : Nat) (u1 : Int32) (μ : Mu) (hf : fX6_packs a u1 μ = some r) : Mt G l yX6_packs cX6_packs 3 (some .int) (30) 0 0 [.ref (gB G + a), .int u1] μ (some (.int r.1)) r.2 := by
  rw [fX6_packs] at hf
  have hf := grd_v hf
  refine Mt.of (by decide) (Nat.le_of_ble_eq_true rfl) (fun p e s m args below meth c => ?_)
  show LX6_packs G p l e s m args below meth c r 0 [(0, .ref (gB G + a)), (1, .int u1)] [] μ
  refine x_iload_n 1 dX6_packs_0 rfl ?_
  refine x_iconst (-1) dX6_packs_1 (by decide) ?_
  refine x_icmp_eq 18 dX6_packs_2 rfl (fun c1 => ?_) (fun c1 => ?_)
  · rw [if_pos c1] at hf
    exact tX6_packs_18  a u1 μ hf
  · rw [if_neg c1] at hf
    refine x_aload_n 0 dX6_packs_5 rfl ?_
    obtain ⟨x13, h14, hf⟩ := bnd hf
    refine x_getR wF_X6_19 (by decide) (by decide) rfl h14 dX6_packs_6 ?_
    refine x_iload_n 1 dX6_packs_9 rfl ?_
    obtain ⟨q15, h16, hf⟩ := bnd hf
    refine x_callVi (rest := []) [.int u1] (tX0_hasHour x13 u1 μ h16) wY_X0_hasHour wI_X0_hasHour wS_X0_hasHour wL_X6_114 (grd_p h16) (by decide) rfl rfl (Nat.le_of_ble_eq_true rfl) ⟨Nat.le_of_ble_eq_true rfl, Nat.le_of_ble_eq_true rfl⟩ ⟨Nat.le_refl _, Nat.le_refl _⟩ dX6_packs_10 ?_
    refine x_if_ne 18 dX6_packs_13 rfl (fun c17 => ?_) (fun c17 => ?_)
    · rw [if_neg c17] at hf
      exact tX6_packs_18  a u1 q15.2 hf
    · rw [if_pos c17] at hf
      refine x_iconst (-1) dX6_packs_16 (by decide) ?_
      exact y_iret rfl rfl rfl hf dX6_packs_17
abbrev LX6_deeper (G : Gm) (p : Program) (l : Launch) (e : Env) (s : State) (m : MethodId) (args : Array Value) (below : List Frame) (meth : Method) (c : Code) (r : Int32 × Mu) (pc : Nat) (lv : List (Nat × Value)) (st : List Value) (μ : Mu) : Prop := Lt G p l e { frames := 30, cells := 0, slots := 0, locals := 40 * (30) } s m args below meth c cX6_deeper 6 RX6 (some .int) "deeper" (MQ below (Qm G (some (.int r.1)) r.2 0) args s 0 0 (fA G)) 0 0 pc lv st μ
def fX6_deeper_19 : Nat → Nat → Int32 → Int32 → Int32 → Int32 → Mu → Option (Int32 × Mu)
  | 0, _, _, _, _, _, _ => none
  | n + 1, v0, v1, v2, v3, v4, μ => (gR 6 v0 1 μ).bind fun x4 =>
    (gI 0 x4 0 μ).bind fun x6 =>
    (if x6 ≤ v4 then
    (if v1 = 0 then
    some (v2, μ)
    else
    (if v2 = (-4) then
    some (v2, μ)
    else
    some (v3, μ)))
    else
    (gR 6 v0 1 μ).bind fun x11 =>
    (fX0_roomOf x11 v4 μ).bind fun q13 =>
    (if 9 ≤ q13.1 then
    (fX6_deeper_19 n) v0 v1 v2 v3 (v4 + 1) q13.2
    else
    (gR 6 v0 2 q13.2).bind fun x16 =>
    (gR 6 v0 1 q13.2).bind fun x18 =>
    (fX0_copyFrom x16 x18 q13.2).bind fun q20 =>
    (gR 6 v0 2 q20).bind fun x22 =>
    (fX0_deepen x22 v4 q20).bind fun q24 =>
    (gR 6 v0 6 q24).bind fun x26 =>
    (gR 6 v0 2 q24).bind fun x28 =>
    (fX2_mostOf x26 x28 v3 q24).bind fun q30 =>
    (if q30.1 ≤ v3 then
    (fX6_deeper_19 n) v0 v1 v2 v3 (v4 + 1) q30.2
    else
    (fX6_deeper_19 n) v0 v1 v4 q30.1 (v4 + 1) q30.2)))
set_option maxRecDepth 20000 in
theorem tX6_deeper_19 {G : Gm} {p : Program} {l : Launch} {e : Env} {s : State} {m : MethodId} {args : Array Value} {below : List Frame} {meth : Method} {c : Code} {r : Int32 × Mu} : ∀ (n : Nat) (v0 : Nat) (v1 : Int32) (v2 : Int32) (v3 : Int32) (v4 : Int32) (μ : Mu), fX6_deeper_19 n v0 v1 v2 v3 v4 μ = some r → LX6_deeper G p l e s m args below meth c r 19 [(0, .ref (gB G + v0)), (1, .int v1), (2, .int v2), (3, .int v3), (4, .int v4)] [] μ := by
  intro n
  induction n with
  | zero =>
    intro v0 v1 v2 v3 v4 μ hf
    simp [fX6_deeper_19] at hf
  | succ n ih =>
    intro v0 v1 v2 v3 v4 μ hf
    rw [fX6_deeper_19] at hf
    refine x_iload 4 dX6_deeper_19 rfl ?_
    refine x_aload_n 0 dX6_deeper_21 rfl ?_
    obtain ⟨x4, h5, hf⟩ := bnd hf
    refine x_getR wF_X6_19 (by decide) (by decide) rfl h5 dX6_deeper_22 ?_
    obtain ⟨x6, h7, hf⟩ := bnd hf
    refine x_getI wF_X6_85 (by decide) (by decide) rfl h7 dX6_deeper_25 ?_
    refine x_icmp_ge 97 dX6_deeper_28 rfl (fun c8 => ?_) (fun c8 => ?_)
    · rw [if_pos c8] at hf
      refine x_iload_n 1 dX6_deeper_97 rfl ?_
      refine x_if_eq 107 dX6_deeper_98 rfl (fun c9 => ?_) (fun c9 => ?_)
      · rw [if_pos c9] at hf
        refine x_iload_n 2 dX6_deeper_107 rfl ?_
        refine x_goto 112 dX6_deeper_108 rfl ?_
        exact y_iret rfl rfl rfl hf dX6_deeper_112
      · rw [if_neg c9] at hf
        refine x_iload_n 2 dX6_deeper_101 rfl ?_
        refine x_bipush (-4) dX6_deeper_102 (by decide) ?_
        refine x_icmp_ne 111 dX6_deeper_104 rfl (fun c10 => ?_) (fun c10 => ?_)
        · rw [if_neg c10] at hf
          refine x_iload_n 3 dX6_deeper_111 rfl ?_
          exact y_iret rfl rfl rfl hf dX6_deeper_112
        · rw [if_pos c10] at hf
          refine x_iload_n 2 dX6_deeper_107 rfl ?_
          refine x_goto 112 dX6_deeper_108 rfl ?_
          exact y_iret rfl rfl rfl hf dX6_deeper_112
    · rw [if_neg c8] at hf
      refine x_aload_n 0 dX6_deeper_31 rfl ?_
      obtain ⟨x11, h12, hf⟩ := bnd hf
      refine x_getR wF_X6_19 (by decide) (by decide) rfl h12 dX6_deeper_32 ?_
      refine x_iload 4 dX6_deeper_35 rfl ?_
      obtain ⟨q13, h14, hf⟩ := bnd hf
      refine x_callVi (rest := []) [.int v4] (tX0_roomOf x11 v4 μ h14) wY_X0_roomOf wI_X0_roomOf wS_X0_roomOf wL_X6_101 (grd_p h14) (by decide) rfl rfl (Nat.le_of_ble_eq_true rfl) ⟨Nat.le_of_ble_eq_true rfl, Nat.le_of_ble_eq_true rfl⟩ ⟨Nat.le_refl _, Nat.le_refl _⟩ dX6_deeper_37 ?_
      refine x_bipush 9 dX6_deeper_40 (by decide) ?_
      refine x_icmp_ge 91 dX6_deeper_42 rfl (fun c15 => ?_) (fun c15 => ?_)
      · rw [if_pos c15] at hf
        refine x_iinc 4 (v4 + 1) [1, 2, 3, 4, 0] dX6_deeper_91 rfl rfl (by decide) (lv' := [(0, .ref (gB G + v0)), (1, .int v1), (2, .int v2), (3, .int v3), (4, .int (v4 + 1))]) rfl ?_
        refine x_goto 19 dX6_deeper_94 rfl ?_
        exact ih v0 v1 v2 v3 (v4 + 1) q13.2 hf
      · rw [if_neg c15] at hf
        refine x_aload_n 0 dX6_deeper_45 rfl ?_
        obtain ⟨x16, h17, hf⟩ := bnd hf
        refine x_getR wF_X6_23 (by decide) (by decide) rfl h17 dX6_deeper_46 ?_
        refine x_aload_n 0 dX6_deeper_49 rfl ?_
        obtain ⟨x18, h19, hf⟩ := bnd hf
        refine x_getR wF_X6_19 (by decide) (by decide) rfl h19 dX6_deeper_50 ?_
        obtain ⟨q20, h21, hf⟩ := bnd hf
        refine x_callVv (rest := []) [.ref (gB G + x18)] (tX0_copyFrom x16 x18 q13.2 h21) wY_X0_copyFrom wI_X0_copyFrom wS_X0_copyFrom wL_X6_91 (grd_p h21) (by decide) rfl rfl (Nat.le_of_ble_eq_true rfl) ⟨Nat.le_of_ble_eq_true rfl, Nat.le_of_ble_eq_true rfl⟩ ⟨Nat.le_refl _, Nat.le_refl _⟩ dX6_deeper_53 ?_
        refine x_aload_n 0 dX6_deeper_56 rfl ?_
        obtain ⟨x22, h23, hf⟩ := bnd hf
        refine x_getR wF_X6_23 (by decide) (by decide) rfl h23 dX6_deeper_57 ?_
        refine x_iload 4 dX6_deeper_60 rfl ?_
        obtain ⟨q24, h25, hf⟩ := bnd hf
        refine x_callVv (rest := []) [.int v4] (tX0_deepen x22 v4 q20 h25) wY_X0_deepen wI_X0_deepen wS_X0_deepen wL_X6_162 (grd_p h25) (by decide) rfl rfl (Nat.le_of_ble_eq_true rfl) ⟨Nat.le_of_ble_eq_true rfl, Nat.le_of_ble_eq_true rfl⟩ ⟨Nat.le_refl _, Nat.le_refl _⟩ dX6_deeper_62 ?_
        refine x_aload_n 0 dX6_deeper_65 rfl ?_
        obtain ⟨x26, h27, hf⟩ := bnd hf
        refine x_getR wF_X6_48 (by decide) (by decide) rfl h27 dX6_deeper_66 ?_
        refine x_aload_n 0 dX6_deeper_69 rfl ?_
        obtain ⟨x28, h29, hf⟩ := bnd hf
        refine x_getR wF_X6_23 (by decide) (by decide) rfl h29 dX6_deeper_70 ?_
        refine x_iload_n 3 dX6_deeper_73 rfl ?_
        obtain ⟨q30, h31, hf⟩ := bnd hf
        refine x_callVi (rest := []) [.ref (gB G + x28), .int v3] (tX2_mostOf x26 x28 v3 q24 h31) wY_X2_mostOf wI_X2_mostOf wS_X2_mostOf wL_X6_175 (grd_p h31) (by decide) rfl rfl (Nat.le_of_ble_eq_true rfl) ⟨Nat.le_of_ble_eq_true rfl, Nat.le_of_ble_eq_true rfl⟩ ⟨Nat.le_refl _, Nat.le_refl _⟩ dX6_deeper_74 ?_
        refine x_istore [1, 2, 3, 4, 5, 0] dX6_deeper_77 (by decide) (lv' := [(0, .ref (gB G + v0)), (1, .int v1), (2, .int v2), (3, .int v3), (4, .int v4), (5, .int q30.1)]) rfl ?_
        refine x_iload 5 dX6_deeper_79 rfl ?_
        refine x_iload_n 3 dX6_deeper_81 rfl ?_
        refine x_icmp_le 91 dX6_deeper_82 rfl (fun c32 => ?_) (fun c32 => ?_)
        · rw [if_pos c32] at hf
          refine x_iinc 4 (v4 + 1) [1, 2, 3, 4, 0, 5] dX6_deeper_91 rfl rfl (by decide) (lv' := [(0, .ref (gB G + v0)), (1, .int v1), (2, .int v2), (3, .int v3), (4, .int (v4 + 1)), (5, .int q30.1)]) rfl ?_
          refine x_goto 19 dX6_deeper_94 rfl ?_
          refine x_sub [0, 1, 2, 3, 4] (lv' := [(0, .ref (gB G + v0)), (1, .int v1), (2, .int v2), (3, .int v3), (4, .int (v4 + 1))]) rfl ?_
          exact ih v0 v1 v2 v3 (v4 + 1) q30.2 hf
        · rw [if_neg c32] at hf
          refine x_iload 5 dX6_deeper_85 rfl ?_
          refine x_istore_n [1, 2, 3, 0, 4, 5] dX6_deeper_87 (by decide) (lv' := [(0, .ref (gB G + v0)), (1, .int v1), (2, .int v2), (3, .int q30.1), (4, .int v4), (5, .int q30.1)]) rfl ?_
          refine x_iload 4 dX6_deeper_88 rfl ?_
          refine x_istore_n [1, 2, 0, 3, 4, 5] dX6_deeper_90 (by decide) (lv' := [(0, .ref (gB G + v0)), (1, .int v1), (2, .int v4), (3, .int q30.1), (4, .int v4), (5, .int q30.1)]) rfl ?_
          refine x_iinc 4 (v4 + 1) [1, 2, 3, 4, 0, 5] dX6_deeper_91 rfl rfl (by decide) (lv' := [(0, .ref (gB G + v0)), (1, .int v1), (2, .int v4), (3, .int q30.1), (4, .int (v4 + 1)), (5, .int q30.1)]) rfl ?_
          refine x_goto 19 dX6_deeper_94 rfl ?_
          refine x_sub [0, 1, 2, 3, 4] (lv' := [(0, .ref (gB G + v0)), (1, .int v1), (2, .int v4), (3, .int q30.1), (4, .int (v4 + 1))]) rfl ?_
          exact ih v0 v1 v4 q30.1 (v4 + 1) q30.2 hf
def fX6_deeper (a : Nat) (u1 : Int32) (μ : Mu) : Option (Int32 × Mu) := grd (isO 6 a μ) ((fX6_isWithin u1 0 1 μ).bind fun q1 =>
    (if q1.1 = 0 then
    some ((-1), q1.2)
    else
    fX6_deeper_19  FU a u1 (-4) (-1) 0 q1.2))
set_option maxRecDepth 20000 in
theorem tX6_deeper {G : Gm} {l : Launch} {r : Int32 × Mu} (a : Nat) (u1 : Int32) (μ : Mu) (hf : fX6_deeper a u1 μ = some r) : Mt G l yX6_deeper cX6_deeper 6 (some .int) (30) 0 0 [.ref (gB G + a), .int u1] μ (some (.int r.1)) r.2 := by
  rw [fX6_deeper] at hf
  have hf := grd_v hf
  refine Mt.of (by decide) (Nat.le_of_ble_eq_true rfl) (fun p e s m args below meth c => ?_)
  show LX6_deeper G p l e s m args below meth c r 0 [(0, .ref (gB G + a)), (1, .int u1)] [] μ
  refine x_iload_n 1 dX6_deeper_0 rfl ?_
  refine x_iconst 0 dX6_deeper_1 (by decide) ?_
  refine x_iconst 1 dX6_deeper_2 (by decide) ?_
  obtain ⟨q1, h2, hf⟩ := bnd hf
  refine x_callSi (rest := []) [.int u1, .int 0, .int 1] (tX6_isWithin u1 0 1 μ h2) wY_X6_isWithin wT_X6_isWithin wL_X6_139 rfl (Nat.le_of_ble_eq_true rfl) ⟨Nat.le_of_ble_eq_true rfl, Nat.le_of_ble_eq_true rfl⟩ ⟨Nat.le_refl _, Nat.le_refl _⟩ dX6_deeper_3 ?_
  refine x_if_ne 11 dX6_deeper_6 rfl (fun c3 => ?_) (fun c3 => ?_)
  · rw [if_neg c3] at hf
    refine x_bipush (-4) dX6_deeper_11 (by decide) ?_
    refine x_istore_n [1, 2, 0] dX6_deeper_13 (by decide) (lv' := [(0, .ref (gB G + a)), (1, .int u1), (2, .int (-4))]) rfl ?_
    refine x_iconst (-1) dX6_deeper_14 (by decide) ?_
    refine x_istore_n [1, 2, 3, 0] dX6_deeper_15 (by decide) (lv' := [(0, .ref (gB G + a)), (1, .int u1), (2, .int (-4)), (3, .int (-1))]) rfl ?_
    refine x_iconst 0 dX6_deeper_16 (by decide) ?_
    refine x_istore [1, 2, 3, 4, 0] dX6_deeper_17 (by decide) (lv' := [(0, .ref (gB G + a)), (1, .int u1), (2, .int (-4)), (3, .int (-1)), (4, .int 0)]) rfl ?_
    exact tX6_deeper_19  FU a u1 (-4) (-1) 0 q1.2 hf
  · rw [if_pos c3] at hf
    refine x_iconst (-1) dX6_deeper_9 (by decide) ?_
    exact y_iret rfl rfl rfl hf dX6_deeper_10
