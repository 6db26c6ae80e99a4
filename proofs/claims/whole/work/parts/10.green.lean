abbrev LX0_clear (G : Gm) (p : Program) (l : Launch) (e : Env) (s : State) (m : MethodId) (args : Array Value) (below : List Frame) (meth : Method) (c : Code) (r : Mu) (pc : Nat) (lv : List (Nat × Value)) (st : List Value) (μ : Mu) : Prop := Lt G p l e { frames := 0, cells := 0, slots := 0, locals := 40 * (0) } s m args below meth c cX0_clear 2 RX0 none "clear" (MQ below (Qm G none r 0) args s 0 0 (fA G)) 0 0 pc lv st μ
def fX0_clear_27 : Nat → Nat → Int32 → Mu → Option (Mu)
  | 0, _, _, _ => none
  | n + 1, v0, v1, μ => (if 7 ≤ v1 then
    some μ
    else
    (gR 0 v0 6 μ).bind fun x12 =>
    (bI 8 x12 v1 0 μ).bind fun m14 =>
    (gR 0 v0 7 m14).bind fun x16 =>
    (bI 8 x16 v1 0 m14).bind fun m18 =>
    (gR 0 v0 8 m18).bind fun x20 =>
    (bI 8 x20 v1 (-4) m18).bind fun m22 =>
    (gR 0 v0 9 m22).bind fun x24 =>
    (bI 8 x24 v1 0 m22).bind fun m26 =>
    (fX0_clear_27 n) v0 (v1 + 1) m26)
set_option maxRecDepth 20000 in
theorem tX0_clear_27 {G : Gm} {p : Program} {l : Launch} {e : Env} {s : State} {m : MethodId} {args : Array Value} {below : List Frame} {meth : Method} {c : Code} {r : Mu} : ∀ (n : Nat) (v0 : Nat) (v1 : Int32) (μ : Mu), fX0_clear_27 n v0 v1 μ = some r → LX0_clear G p l e s m args below meth c r 27 [(0, .ref (gB G + v0)), (1, .int v1)] [] μ := by
  intro n
  induction n with
  | zero =>
    intro v0 v1 μ hf
    simp [fX0_clear_27] at hf
  | succ n ih =>
    intro v0 v1 μ hf
    rw [fX0_clear_27] at hf
    refine x_iload_n 1 dX0_clear_27 rfl ?_
    refine x_bipush 7 dX0_clear_28 (by decide) ?_
    refine x_icmp_ge 68 dX0_clear_30 rfl (fun c11 => ?_) (fun c11 => ?_)
    · rw [if_pos c11] at hf
      exact y_vret rfl rfl rfl hf dX0_clear_68
    · rw [if_neg c11] at hf
      refine x_aload_n 0 dX0_clear_33 rfl ?_
      obtain ⟨x12, h13, hf⟩ := bnd hf
      refine x_getR wF_X0_15 (by decide) (by decide) rfl h13 dX0_clear_34 ?_
      refine x_iload_n 1 dX0_clear_37 rfl ?_
      refine x_iconst 0 dX0_clear_38 (by decide) ?_
      obtain ⟨m14, h15, hf⟩ := bnd hf
      refine x_iast h15 dX0_clear_39 ?_
      refine x_aload_n 0 dX0_clear_40 rfl ?_
      obtain ⟨x16, h17, hf⟩ := bnd hf
      refine x_getR wF_X0_18 (by decide) (by decide) rfl h17 dX0_clear_41 ?_
      refine x_iload_n 1 dX0_clear_44 rfl ?_
      refine x_iconst 0 dX0_clear_45 (by decide) ?_
      obtain ⟨m18, h19, hf⟩ := bnd hf
      refine x_iast h19 dX0_clear_46 ?_
      refine x_aload_n 0 dX0_clear_47 rfl ?_
      obtain ⟨x20, h21, hf⟩ := bnd hf
      refine x_getR wF_X0_21 (by decide) (by decide) rfl h21 dX0_clear_48 ?_
      refine x_iload_n 1 dX0_clear_51 rfl ?_
      refine x_bipush (-4) dX0_clear_52 (by decide) ?_
      obtain ⟨m22, h23, hf⟩ := bnd hf
      refine x_iast h23 dX0_clear_54 ?_
      refine x_aload_n 0 dX0_clear_55 rfl ?_
      obtain ⟨x24, h25, hf⟩ := bnd hf
      refine x_getR wF_X0_24 (by decide) (by decide) rfl h25 dX0_clear_56 ?_
      refine x_iload_n 1 dX0_clear_59 rfl ?_
      refine x_iconst 0 dX0_clear_60 (by decide) ?_
      obtain ⟨m26, h27, hf⟩ := bnd hf
      refine x_iast h27 dX0_clear_61 ?_
      refine x_iinc 1 (v1 + 1) [1, 0] dX0_clear_62 rfl rfl (by decide) (lv' := [(0, .ref (gB G + v0)), (1, .int (v1 + 1))]) rfl ?_
      refine x_goto 27 dX0_clear_65 rfl ?_
      exact ih v0 (v1 + 1) m26 hf
def fX0_clear (a : Nat) (μ : Mu) : Option (Mu) := grd (isO 0 a μ) ((pI 0 a 0 0 μ).bind fun m1 =>
    (pI 0 a 1 0 m1).bind fun m3 =>
    (pI 0 a 2 0 m3).bind fun m5 =>
    (pI 0 a 3 0 m5).bind fun m7 =>
    (pL 0 a 4 0 m7).bind fun m9 =>
    fX0_clear_27  FU a 0 m9)
set_option maxRecDepth 20000 in
theorem tX0_clear {G : Gm} {l : Launch} {r : Mu} (a : Nat) (μ : Mu) (hf : fX0_clear a μ = some r) : Mt G l yX0_clear cX0_clear 2 none (0) 0 0 [.ref (gB G + a)] μ none r := by
  rw [fX0_clear] at hf
  have hf := grd_v hf
  refine Mt.of (by decide) (Nat.le_of_ble_eq_true rfl) (fun p e s m args below meth c => ?_)
  show LX0_clear G p l e s m args below meth c r 0 [(0, .ref (gB G + a))] [] μ
  refine x_aload_n 0 dX0_clear_0 rfl ?_
  refine x_iconst 0 dX0_clear_1 (by decide) ?_
  obtain ⟨m1, h2, hf⟩ := bnd hf
  refine x_putI wF_X0_30 (by decide) (by decide) rfl rfl h2 dX0_clear_2 ?_
  refine x_aload_n 0 dX0_clear_5 rfl ?_
  refine x_iconst 0 dX0_clear_6 (by decide) ?_
  obtain ⟨m3, h4, hf⟩ := bnd hf
  refine x_putI wF_X0_34 (by decide) (by decide) rfl rfl h4 dX0_clear_7 ?_
  refine x_aload_n 0 dX0_clear_10 rfl ?_
  refine x_iconst 0 dX0_clear_11 (by decide) ?_
  obtain ⟨m5, h6, hf⟩ := bnd hf
  refine x_putI wF_X0_37 (by decide) (by decide) rfl rfl h6 dX0_clear_12 ?_
  refine x_aload_n 0 dX0_clear_15 rfl ?_
  refine x_iconst 0 dX0_clear_16 (by decide) ?_
  obtain ⟨m7, h8, hf⟩ := bnd hf
  refine x_putI wF_X0_40 (by decide) (by decide) rfl rfl h8 dX0_clear_17 ?_
  refine x_aload_n 0 dX0_clear_20 rfl ?_
  refine x_lconst 0 dX0_clear_21 (by decide) ?_
  obtain ⟨m9, h10, hf⟩ := bnd hf
  refine x_putL wF_X0_43 (by decide) (by decide) rfl rfl h10 dX0_clear_22 ?_
  refine x_iconst 0 dX0_clear_25 (by decide) ?_
  refine x_istore_n [1, 0] dX0_clear_26 (by decide) (lv' := [(0, .ref (gB G + a)), (1, .int 0)]) rfl ?_
  exact tX0_clear_27  FU a 0 m9 hf
abbrev LX0_copyFrom (G : Gm) (p : Program) (l : Launch) (e : Env) (s : State) (m : MethodId) (args : Array Value) (below : List Frame) (meth : Method) (c : Code) (r : Mu) (pc : Nat) (lv : List (Nat × Value)) (st : List Value) (μ : Mu) : Prop := Lt G p l e { frames := 0, cells := 0, slots := 0, locals := 40 * (0) } s m args below meth c cX0_copyFrom 3 RX0 none "copyFrom" (MQ below (Qm G none r 0) args s 0 0 (fA G)) 0 0 pc lv st μ
def fX0_copyFrom_67 : Nat → Nat → Nat → Int32 → Mu → Option (Mu)
  | 0, _, _, _, _ => none
  | n + 1, v0, v1, v2, μ => (if 7 ≤ v2 then
    some μ
    else
    (gR 0 v0 6 μ).bind fun x23 =>
    (gR 0 v1 6 μ).bind fun x25 =>
    (aI 8 x25 v2 μ).bind fun x27 =>
    (bI 8 x23 v2 x27 μ).bind fun m29 =>
    (gR 0 v0 7 m29).bind fun x31 =>
    (gR 0 v1 7 m29).bind fun x33 =>
    (aI 8 x33 v2 m29).bind fun x35 =>
    (bI 8 x31 v2 x35 m29).bind fun m37 =>
    (gR 0 v0 8 m37).bind fun x39 =>
    (gR 0 v1 8 m37).bind fun x41 =>
    (aI 8 x41 v2 m37).bind fun x43 =>
    (bI 8 x39 v2 x43 m37).bind fun m45 =>
    (gR 0 v0 9 m45).bind fun x47 =>
    (gR 0 v1 9 m45).bind fun x49 =>
    (aI 8 x49 v2 m45).bind fun x51 =>
    (bI 8 x47 v2 x51 m45).bind fun m53 =>
    (fX0_copyFrom_67 n) v0 v1 (v2 + 1) m53)
set_option maxRecDepth 20000 in
theorem tX0_copyFrom_67 {G : Gm} {p : Program} {l : Launch} {e : Env} {s : State} {m : MethodId} {args : Array Value} {below : List Frame} {meth : Method} {c : Code} {r : Mu} : ∀ (n : Nat) (v0 : Nat) (v1 : Nat) (v2 : Int32) (μ : Mu), fX0_copyFrom_67 n v0 v1 v2 μ = some r → LX0_copyFrom G p l e s m args below meth c r 67 [(0, .ref (gB G + v0)), (1, .ref (gB G + v1)), (2, .int v2)] [] μ := by
  intro n
  induction n with
  | zero =>
    intro v0 v1 v2 μ hf
    simp [fX0_copyFrom_67] at hf
  | succ n ih =>
    intro v0 v1 v2 μ hf
    rw [fX0_copyFrom_67] at hf
    refine x_iload_n 2 dX0_copyFrom_67 rfl ?_
    refine x_bipush 7 dX0_copyFrom_68 (by decide) ?_
    refine x_icmp_ge 127 dX0_copyFrom_70 rfl (fun c22 => ?_) (fun c22 => ?_)
    · rw [if_pos c22] at hf
      exact y_vret rfl rfl rfl hf dX0_copyFrom_127
    · rw [if_neg c22] at hf
      refine x_aload_n 0 dX0_copyFrom_73 rfl ?_
      obtain ⟨x23, h24, hf⟩ := bnd hf
      refine x_getR wF_X0_15 (by decide) (by decide) rfl h24 dX0_copyFrom_74 ?_
      refine x_iload_n 2 dX0_copyFrom_77 rfl ?_
      refine x_aload_n 1 dX0_copyFrom_78 rfl ?_
      obtain ⟨x25, h26, hf⟩ := bnd hf
      refine x_getR wF_X0_15 (by decide) (by decide) rfl h26 dX0_copyFrom_79 ?_
      refine x_iload_n 2 dX0_copyFrom_82 rfl ?_
      obtain ⟨x27, h28, hf⟩ := bnd hf
      refine x_iald h28 dX0_copyFrom_83 ?_
      obtain ⟨m29, h30, hf⟩ := bnd hf
      refine x_iast h30 dX0_copyFrom_84 ?_
      refine x_aload_n 0 dX0_copyFrom_85 rfl ?_
      obtain ⟨x31, h32, hf⟩ := bnd hf
      refine x_getR wF_X0_18 (by decide) (by decide) rfl h32 dX0_copyFrom_86 ?_
      refine x_iload_n 2 dX0_copyFrom_89 rfl ?_
      refine x_aload_n 1 dX0_copyFrom_90 rfl ?_
      obtain ⟨x33, h34, hf⟩ := bnd hf
      refine x_getR wF_X0_18 (by decide) (by decide) rfl h34 dX0_copyFrom_91 ?_
      refine x_iload_n 2 dX0_copyFrom_94 rfl ?_
      obtain ⟨x35, h36, hf⟩ := bnd hf
      refine x_iald h36 dX0_copyFrom_95 ?_
      obtain ⟨m37, h38, hf⟩ := bnd hf
      refine x_iast h38 dX0_copyFrom_96 ?_
      refine x_aload_n 0 dX0_copyFrom_97 rfl ?_
      obtain ⟨x39, h40, hf⟩ := bnd hf
      refine x_getR wF_X0_21 (by decide) (by decide) rfl h40 dX0_copyFrom_98 ?_
      refine x_iload_n 2 dX0_copyFrom_101 rfl ?_
      refine x_aload_n 1 dX0_copyFrom_102 rfl ?_
      obtain ⟨x41, h42, hf⟩ := bnd hf
      refine x_getR wF_X0_21 (by decide) (by decide) rfl h42 dX0_copyFrom_103 ?_
      refine x_iload_n 2 dX0_copyFrom_106 rfl ?_
      obtain ⟨x43, h44, hf⟩ := bnd hf
      refine x_iald h44 dX0_copyFrom_107 ?_
      obtain ⟨m45, h46, hf⟩ := bnd hf
      refine x_iast h46 dX0_copyFrom_108 ?_
      refine x_aload_n 0 dX0_copyFrom_109 rfl ?_
      obtain ⟨x47, h48, hf⟩ := bnd hf
      refine x_getR wF_X0_24 (by decide) (by decide) rfl h48 dX0_copyFrom_110 ?_
      refine x_iload_n 2 dX0_copyFrom_113 rfl ?_
      refine x_aload_n 1 dX0_copyFrom_114 rfl ?_
      obtain ⟨x49, h50, hf⟩ := bnd hf
      refine x_getR wF_X0_24 (by decide) (by decide) rfl h50 dX0_copyFrom_115 ?_
      refine x_iload_n 2 dX0_copyFrom_118 rfl ?_
      obtain ⟨x51, h52, hf⟩ := bnd hf
      refine x_iald h52 dX0_copyFrom_119 ?_
      obtain ⟨m53, h54, hf⟩ := bnd hf
      refine x_iast h54 dX0_copyFrom_120 ?_
      refine x_iinc 2 (v2 + 1) [1, 2, 0] dX0_copyFrom_121 rfl rfl (by decide) (lv' := [(0, .ref (gB G + v0)), (1, .ref (gB G + v1)), (2, .int (v2 + 1))]) rfl ?_
      refine x_goto 67 dX0_copyFrom_124 rfl ?_
      exact ih v0 v1 (v2 + 1) m53 hf
def fX0_copyFrom_42 : Nat → Nat → Nat → Int32 → Mu → Option (Mu)
  | 0, _, _, _, _ => none
  | n + 1, v0, v1, v2, μ => (if 5 ≤ v2 then
    fX0_copyFrom_67  FU v0 v1 0 μ
    else
    (gR 0 v0 5 μ).bind fun x55 =>
    (gR 0 v1 5 μ).bind fun x57 =>
    (aI 8 x57 v2 μ).bind fun x59 =>
    (bI 8 x55 v2 x59 μ).bind fun m61 =>
    (fX0_copyFrom_42 n) v0 v1 (v2 + 1) m61)
set_option maxRecDepth 20000 in
theorem tX0_copyFrom_42 {G : Gm} {p : Program} {l : Launch} {e : Env} {s : State} {m : MethodId} {args : Array Value} {below : List Frame} {meth : Method} {c : Code} {r : Mu} : ∀ (n : Nat) (v0 : Nat) (v1 : Nat) (v2 : Int32) (μ : Mu), fX0_copyFrom_42 n v0 v1 v2 μ = some r → LX0_copyFrom G p l e s m args below meth c r 42 [(0, .ref (gB G + v0)), (1, .ref (gB G + v1)), (2, .int v2)] [] μ := by
  intro n
  induction n with
  | zero =>
    intro v0 v1 v2 μ hf
    simp [fX0_copyFrom_42] at hf
  | succ n ih =>
    intro v0 v1 v2 μ hf
    rw [fX0_copyFrom_42] at hf
    refine x_iload_n 2 dX0_copyFrom_42 rfl ?_
    refine x_iconst 5 dX0_copyFrom_43 (by decide) ?_
    refine x_icmp_ge 65 dX0_copyFrom_44 rfl (fun c21 => ?_) (fun c21 => ?_)
    · rw [if_pos c21] at hf
      refine x_iconst 0 dX0_copyFrom_65 (by decide) ?_
      refine x_istore_n [1, 2, 0] dX0_copyFrom_66 (by decide) (lv' := [(0, .ref (gB G + v0)), (1, .ref (gB G + v1)), (2, .int 0)]) rfl ?_
      exact tX0_copyFrom_67  FU v0 v1 0 μ hf
    · rw [if_neg c21] at hf
      refine x_aload_n 0 dX0_copyFrom_47 rfl ?_
      obtain ⟨x55, h56, hf⟩ := bnd hf
      refine x_getR wF_X0_9 (by decide) (by decide) rfl h56 dX0_copyFrom_48 ?_
      refine x_iload_n 2 dX0_copyFrom_51 rfl ?_
      refine x_aload_n 1 dX0_copyFrom_52 rfl ?_
      obtain ⟨x57, h58, hf⟩ := bnd hf
      refine x_getR wF_X0_9 (by decide) (by decide) rfl h58 dX0_copyFrom_53 ?_
      refine x_iload_n 2 dX0_copyFrom_56 rfl ?_
      obtain ⟨x59, h60, hf⟩ := bnd hf
      refine x_iald h60 dX0_copyFrom_57 ?_
      obtain ⟨m61, h62, hf⟩ := bnd hf
      refine x_iast h62 dX0_copyFrom_58 ?_
      refine x_iinc 2 (v2 + 1) [1, 2, 0] dX0_copyFrom_59 rfl rfl (by decide) (lv' := [(0, .ref (gB G + v0)), (1, .ref (gB G + v1)), (2, .int (v2 + 1))]) rfl ?_
      refine x_goto 42 dX0_copyFrom_62 rfl ?_
      exact ih v0 v1 (v2 + 1) m61 hf
def fX0_copyFrom (a : Nat) (u1 : Nat) (μ : Mu) : Option (Mu) := grd (isO 0 a μ) ((gI 0 u1 0 μ).bind fun x1 =>
    (pI 0 a 0 x1 μ).bind fun m3 =>
    (gI 0 u1 1 m3).bind fun x5 =>
    (pI 0 a 1 x5 m3).bind fun m7 =>
    (gI 0 u1 2 m7).bind fun x9 =>
    (pI 0 a 2 x9 m7).bind fun m11 =>
    (gI 0 u1 3 m11).bind fun x13 =>
    (pI 0 a 3 x13 m11).bind fun m15 =>
    (gL 0 u1 4 m15).bind fun x17 =>
    (pL 0 a 4 x17 m15).bind fun m19 =>
    fX0_copyFrom_42  FU a u1 0 m19)
set_option maxRecDepth 20000 in
theorem tX0_copyFrom {G : Gm} {l : Launch} {r : Mu} (a : Nat) (u1 : Nat) (μ : Mu) (hf : fX0_copyFrom a u1 μ = some r) : Mt G l yX0_copyFrom cX0_copyFrom 3 none (0) 0 0 [.ref (gB G + a), .ref (gB G + u1)] μ none r := by
  rw [fX0_copyFrom] at hf
  have hf := grd_v hf
  refine Mt.of (by decide) (Nat.le_of_ble_eq_true rfl) (fun p e s m args below meth c => ?_)
  show LX0_copyFrom G p l e s m args below meth c r 0 [(0, .ref (gB G + a)), (1, .ref (gB G + u1))] [] μ
  refine x_aload_n 0 dX0_copyFrom_0 rfl ?_
  refine x_aload_n 1 dX0_copyFrom_1 rfl ?_
  obtain ⟨x1, h2, hf⟩ := bnd hf
  refine x_getI wF_X0_30 (by decide) (by decide) rfl h2 dX0_copyFrom_2 ?_
  obtain ⟨m3, h4, hf⟩ := bnd hf
  refine x_putI wF_X0_30 (by decide) (by decide) rfl rfl h4 dX0_copyFrom_5 ?_
  refine x_aload_n 0 dX0_copyFrom_8 rfl ?_
  refine x_aload_n 1 dX0_copyFrom_9 rfl ?_
  obtain ⟨x5, h6, hf⟩ := bnd hf
  refine x_getI wF_X0_34 (by decide) (by decide) rfl h6 dX0_copyFrom_10 ?_
  obtain ⟨m7, h8, hf⟩ := bnd hf
  refine x_putI wF_X0_34 (by decide) (by decide) rfl rfl h8 dX0_copyFrom_13 ?_
  refine x_aload_n 0 dX0_copyFrom_16 rfl ?_
  refine x_aload_n 1 dX0_copyFrom_17 rfl ?_
  obtain ⟨x9, h10, hf⟩ := bnd hf
  refine x_getI wF_X0_37 (by decide) (by decide) rfl h10 dX0_copyFrom_18 ?_
  obtain ⟨m11, h12, hf⟩ := bnd hf
  refine x_putI wF_X0_37 (by decide) (by decide) rfl rfl h12 dX0_copyFrom_21 ?_
  refine x_aload_n 0 dX0_copyFrom_24 rfl ?_
  refine x_aload_n 1 dX0_copyFrom_25 rfl ?_
  obtain ⟨x13, h14, hf⟩ := bnd hf
  refine x_getI wF_X0_40 (by decide) (by decide) rfl h14 dX0_copyFrom_26 ?_
  obtain ⟨m15, h16, hf⟩ := bnd hf
  refine x_putI wF_X0_40 (by decide) (by decide) rfl rfl h16 dX0_copyFrom_29 ?_
  refine x_aload_n 0 dX0_copyFrom_32 rfl ?_
  refine x_aload_n 1 dX0_copyFrom_33 rfl ?_
  obtain ⟨x17, h18, hf⟩ := bnd hf
  refine x_getL wF_X0_43 (by decide) (by decide) rfl h18 dX0_copyFrom_34 ?_
  obtain ⟨m19, h20, hf⟩ := bnd hf
  refine x_putL wF_X0_43 (by decide) (by decide) rfl rfl h20 dX0_copyFrom_37 ?_
  refine x_iconst 0 dX0_copyFrom_40 (by decide) ?_
  refine x_istore_n [1, 2, 0] dX0_copyFrom_41 (by decide) (lv' := [(0, .ref (gB G + a)), (1, .ref (gB G + u1)), (2, .int 0)]) rfl ?_
  exact tX0_copyFrom_42  FU a u1 0 m19 hf
abbrev LX6_isWithin (G : Gm) (p : Program) (l : Launch) (e : Env) (s : State) (m : MethodId) (args : Array Value) (below : List Frame) (meth : Method) (c : Code) (r : Int32 × Mu) (pc : Nat) (lv : List (Nat × Value)) (st : List Value) (μ : Mu) : Prop := Lt G p l e { frames := 0, cells := 0, slots := 0, locals := 40 * (0) } s m args below meth c cX6_isWithin 3 RX6 (some .boolean) "isWithin" (MQ below (Qm G (some (.int r.1)) r.2 0) args s 0 0 (fA G)) 0 0 pc lv st μ
def fX6_isWithin (u1 : Int32) (u2 : Int32) (u3 : Int32) (μ : Mu) : Option (Int32 × Mu) := (if u1 < u2 then
    some (0, μ)
    else
    (if u3 < u1 then
    some (0, μ)
    else
    some (1, μ)))
set_option maxRecDepth 20000 in
theorem tX6_isWithin {G : Gm} {l : Launch} {r : Int32 × Mu} (u1 : Int32) (u2 : Int32) (u3 : Int32) (μ : Mu) (hf : fX6_isWithin u1 u2 u3 μ = some r) : Mt G l yX6_isWithin cX6_isWithin 3 (some .boolean) (0) 0 0 [.int u1, .int u2, .int u3] μ (some (.int r.1)) r.2 := by
  rw [fX6_isWithin] at hf
  refine Mt.of (by decide) (Nat.le_of_ble_eq_true rfl) (fun p e s m args below meth c => ?_)
  show LX6_isWithin G p l e s m args below meth c r 0 [(0, .int u1), (1, .int u2), (2, .int u3)] [] μ
  refine x_iload_n 0 dX6_isWithin_0 rfl ?_
  refine x_iload_n 1 dX6_isWithin_1 rfl ?_
  refine x_icmp_lt 14 dX6_isWithin_2 rfl (fun c1 => ?_) (fun c1 => ?_)
  · rw [if_pos c1] at hf
    refine x_iconst 0 dX6_isWithin_14 (by decide) ?_
    exact y_zret rfl (by decide) rfl rfl hf dX6_isWithin_15
  · rw [if_neg c1] at hf
    refine x_iload_n 0 dX6_isWithin_5 rfl ?_
    refine x_iload_n 2 dX6_isWithin_6 rfl ?_
    refine x_icmp_gt 14 dX6_isWithin_7 rfl (fun c2 => ?_) (fun c2 => ?_)
    · rw [if_pos c2] at hf
      refine x_iconst 0 dX6_isWithin_14 (by decide) ?_
      exact y_zret rfl (by decide) rfl rfl hf dX6_isWithin_15
    · rw [if_neg c2] at hf
      refine x_iconst 1 dX6_isWithin_10 (by decide) ?_
      refine x_goto 15 dX6_isWithin_11 rfl ?_
      exact y_zret rfl (by decide) rfl rfl hf dX6_isWithin_15
abbrev LX0_addPlot (G : Gm) (p : Program) (l : Launch) (e : Env) (s : State) (m : MethodId) (args : Array Value) (below : List Frame) (meth : Method) (c : Code) (r : Int32 × Mu) (pc : Nat) (lv : List (Nat × Value)) (st : List Value) (μ : Mu) : Prop := Lt G p l e { frames := 1, cells := 0, slots := 0, locals := 40 * (1) } s m args below meth c cX0_addPlot 2 RX0 (some .boolean) "addPlot" (MQ below (Qm G (some (.int r.1)) r.2 0) args s 0 0 (fA G)) 0 0 pc lv st μ
def fX0_addPlot (a : Nat) (u1 : Int32) (μ : Mu) : Option (Int32 × Mu) := grd (isO 0 a μ) ((fX6_isWithin u1 1 9 μ).bind fun q1 =>
    (if q1.1 = 0 then
    some (0, q1.2)
    else
    (gI 0 a 0 q1.2).bind fun x4 =>
    (if x4 < 5 then
    (gR 0 a 5 q1.2).bind fun x7 =>
    (gI 0 a 0 q1.2).bind fun x9 =>
    (bI 8 x7 x9 u1 q1.2).bind fun m11 =>
    (gI 0 a 0 m11).bind fun x13 =>
    (pI 0 a 0 (x13 + 1) m11).bind fun m15 =>
    some (1, m15)
    else
    some (0, q1.2))))
set_option maxRecDepth 20000 in
theorem tX0_addPlot {G : Gm} {l : Launch} {r : Int32 × Mu} (a : Nat) (u1 : Int32) (μ : Mu) (hf : fX0_addPlot a u1 μ = some r) : Mt G l yX0_addPlot cX0_addPlot 2 (some .boolean) (1) 0 0 [.ref (gB G + a), .int u1] μ (some (.int r.1)) r.2 := by
  rw [fX0_addPlot] at hf
  have hf := grd_v hf
  refine Mt.of (by decide) (Nat.le_of_ble_eq_true rfl) (fun p e s m args below meth c => ?_)
  show LX0_addPlot G p l e s m args below meth c r 0 [(0, .ref (gB G + a)), (1, .int u1)] [] μ
  refine x_iload_n 1 dX0_addPlot_0 rfl ?_
  refine x_iconst 1 dX0_addPlot_1 (by decide) ?_
  refine x_bipush 9 dX0_addPlot_2 (by decide) ?_
  obtain ⟨q1, h2, hf⟩ := bnd hf
  refine x_callNi (rest := []) [.int u1, .int 1, .int 9] rfl (tX6_isWithin u1 1 9 μ h2) wY_X6_isWithin wT_X6_isWithin rfl (Nat.le_of_ble_eq_true rfl) ⟨Nat.le_of_ble_eq_true rfl, Nat.le_of_ble_eq_true rfl⟩ ⟨Nat.le_refl _, Nat.le_refl _⟩ dX0_addPlot_4 ?_
  refine x_if_eq 18 dX0_addPlot_7 rfl (fun c3 => ?_) (fun c3 => ?_)
  · rw [if_pos c3] at hf
    refine x_iconst 0 dX0_addPlot_18 (by decide) ?_
    exact y_zret rfl (by decide) rfl rfl hf dX0_addPlot_19
  · rw [if_neg c3] at hf
    refine x_aload_n 0 dX0_addPlot_10 rfl ?_
    obtain ⟨x4, h5, hf⟩ := bnd hf
    refine x_getI wF_X0_30 (by decide) (by decide) rfl h5 dX0_addPlot_11 ?_
    refine x_iconst 5 dX0_addPlot_14 (by decide) ?_
    refine x_icmp_lt 20 dX0_addPlot_15 rfl (fun c6 => ?_) (fun c6 => ?_)
    · rw [if_pos c6] at hf
      refine x_aload_n 0 dX0_addPlot_20 rfl ?_
      obtain ⟨x7, h8, hf⟩ := bnd hf
      refine x_getR wF_X0_9 (by decide) (by decide) rfl h8 dX0_addPlot_21 ?_
      refine x_aload_n 0 dX0_addPlot_24 rfl ?_
      obtain ⟨x9, h10, hf⟩ := bnd hf
      refine x_getI wF_X0_30 (by decide) (by decide) rfl h10 dX0_addPlot_25 ?_
      refine x_iload_n 1 dX0_addPlot_28 rfl ?_
      obtain ⟨m11, h12, hf⟩ := bnd hf
      refine x_iast h12 dX0_addPlot_29 ?_
      refine x_aload_n 0 dX0_addPlot_30 rfl ?_
      refine x_dup dX0_addPlot_31 rfl ?_
      obtain ⟨x13, h14, hf⟩ := bnd hf
      refine x_getI wF_X0_30 (by decide) (by decide) rfl h14 dX0_addPlot_32 ?_
      refine x_iconst 1 dX0_addPlot_35 (by decide) ?_
      refine x_iadd dX0_addPlot_36 ?_
      obtain ⟨m15, h16, hf⟩ := bnd hf
      refine x_putI wF_X0_30 (by decide) (by decide) rfl rfl h16 dX0_addPlot_37 ?_
      refine x_iconst 1 dX0_addPlot_40 (by decide) ?_
      exact y_zret rfl (by decide) rfl rfl hf dX0_addPlot_41
    · rw [if_neg c6] at hf
      refine x_iconst 0 dX0_addPlot_18 (by decide) ?_
      exact y_zret rfl (by decide) rfl rfl hf dX0_addPlot_19
abbrev LX0_addHour (G : Gm) (p : Program) (l : Launch) (e : Env) (s : State) (m : MethodId) (args : Array Value) (below : List Frame) (meth : Method) (c : Code) (r : Int32 × Mu) (pc : Nat) (lv : List (Nat × Value)) (st : List Value) (μ : Mu) : Prop := Lt G p l e { frames := 1, cells := 0, slots := 0, locals := 40 * (1) } s m args below meth c cX0_addHour 3 RX0 (some .boolean) "addHour" (MQ below (Qm G (some (.int r.1)) r.2 0) args s 0 0 (fA G)) 0 0 pc lv st μ
def fX0_addHour (a : Nat) (u1 : Int32) (u2 : Int32) (μ : Mu) : Option (Int32 × Mu) := grd (isO 0 a μ) ((fX6_isWithin u1 0 3 μ).bind fun q1 =>
    (if q1.1 = 0 then
    some (0, q1.2)
    else
    (fX6_isWithin u2 1 20 q1.2).bind fun q4 =>
    (if q4.1 = 0 then
    some (0, q4.2)
    else
    (gI 0 a 1 q4.2).bind fun x7 =>
    (if x7 < 7 then
    (gR 0 a 6 q4.2).bind fun x10 =>
    (gI 0 a 1 q4.2).bind fun x12 =>
    (bI 8 x10 x12 u1 q4.2).bind fun m14 =>
    (gR 0 a 7 m14).bind fun x16 =>
    (gI 0 a 1 m14).bind fun x18 =>
    (bI 8 x16 x18 u2 m14).bind fun m20 =>
    (gI 0 a 1 m20).bind fun x22 =>
    (pI 0 a 1 (x22 + 1) m20).bind fun m24 =>
    some (1, m24)
    else
    some (0, q4.2)))))
set_option maxRecDepth 20000 in
theorem tX0_addHour {G : Gm} {l : Launch} {r : Int32 × Mu} (a : Nat) (u1 : Int32) (u2 : Int32) (μ : Mu) (hf : fX0_addHour a u1 u2 μ = some r) : Mt G l yX0_addHour cX0_addHour 3 (some .boolean) (1) 0 0 [.ref (gB G + a), .int u1, .int u2] μ (some (.int r.1)) r.2 := by
  rw [fX0_addHour] at hf
  have hf := grd_v hf
  refine Mt.of (by decide) (Nat.le_of_ble_eq_true rfl) (fun p e s m args below meth c => ?_)
  show LX0_addHour G p l e s m args below meth c r 0 [(0, .ref (gB G + a)), (1, .int u1), (2, .int u2)] [] μ
  refine x_iload_n 1 dX0_addHour_0 rfl ?_
  refine x_iconst 0 dX0_addHour_1 (by decide) ?_
  refine x_iconst 3 dX0_addHour_2 (by decide) ?_
  obtain ⟨q1, h2, hf⟩ := bnd hf
  refine x_callNi (rest := []) [.int u1, .int 0, .int 3] rfl (tX6_isWithin u1 0 3 μ h2) wY_X6_isWithin wT_X6_isWithin rfl (Nat.le_of_ble_eq_true rfl) ⟨Nat.le_of_ble_eq_true rfl, Nat.le_of_ble_eq_true rfl⟩ ⟨Nat.le_refl _, Nat.le_refl _⟩ dX0_addHour_3 ?_
  refine x_if_eq 28 dX0_addHour_6 rfl (fun c3 => ?_) (fun c3 => ?_)
  · rw [if_pos c3] at hf
    refine x_iconst 0 dX0_addHour_28 (by decide) ?_
    exact y_zret rfl (by decide) rfl rfl hf dX0_addHour_29
  · rw [if_neg c3] at hf
    refine x_iload_n 2 dX0_addHour_9 rfl ?_
    refine x_iconst 1 dX0_addHour_10 (by decide) ?_
    refine x_bipush 20 dX0_addHour_11 (by decide) ?_
    obtain ⟨q4, h5, hf⟩ := bnd hf
    refine x_callNi (rest := []) [.int u2, .int 1, .int 20] rfl (tX6_isWithin u2 1 20 q1.2 h5) wY_X6_isWithin wT_X6_isWithin rfl (Nat.le_of_ble_eq_true rfl) ⟨Nat.le_of_ble_eq_true rfl, Nat.le_of_ble_eq_true rfl⟩ ⟨Nat.le_refl _, Nat.le_refl _⟩ dX0_addHour_13 ?_
    refine x_if_eq 28 dX0_addHour_16 rfl (fun c6 => ?_) (fun c6 => ?_)
    · rw [if_pos c6] at hf
      refine x_iconst 0 dX0_addHour_28 (by decide) ?_
      exact y_zret rfl (by decide) rfl rfl hf dX0_addHour_29
    · rw [if_neg c6] at hf
      refine x_aload_n 0 dX0_addHour_19 rfl ?_
      obtain ⟨x7, h8, hf⟩ := bnd hf
      refine x_getI wF_X0_34 (by decide) (by decide) rfl h8 dX0_addHour_20 ?_
      refine x_bipush 7 dX0_addHour_23 (by decide) ?_
      refine x_icmp_lt 30 dX0_addHour_25 rfl (fun c9 => ?_) (fun c9 => ?_)
      · rw [if_pos c9] at hf
        refine x_aload_n 0 dX0_addHour_30 rfl ?_
        obtain ⟨x10, h11, hf⟩ := bnd hf
        refine x_getR wF_X0_15 (by decide) (by decide) rfl h11 dX0_addHour_31 ?_
        refine x_aload_n 0 dX0_addHour_34 rfl ?_
        obtain ⟨x12, h13, hf⟩ := bnd hf
        refine x_getI wF_X0_34 (by decide) (by decide) rfl h13 dX0_addHour_35 ?_
        refine x_iload_n 1 dX0_addHour_38 rfl ?_
        obtain ⟨m14, h15, hf⟩ := bnd hf
        refine x_iast h15 dX0_addHour_39 ?_
        refine x_aload_n 0 dX0_addHour_40 rfl ?_
        obtain ⟨x16, h17, hf⟩ := bnd hf
        refine x_getR wF_X0_18 (by decide) (by decide) rfl h17 dX0_addHour_41 ?_
        refine x_aload_n 0 dX0_addHour_44 rfl ?_
        obtain ⟨x18, h19, hf⟩ := bnd hf
        refine x_getI wF_X0_34 (by decide) (by decide) rfl h19 dX0_addHour_45 ?_
        refine x_iload_n 2 dX0_addHour_48 rfl ?_
        obtain ⟨m20, h21, hf⟩ := bnd hf
        refine x_iast h21 dX0_addHour_49 ?_
        refine x_aload_n 0 dX0_addHour_50 rfl ?_
        refine x_dup dX0_addHour_51 rfl ?_
        obtain ⟨x22, h23, hf⟩ := bnd hf
        refine x_getI wF_X0_34 (by decide) (by decide) rfl h23 dX0_addHour_52 ?_
        refine x_iconst 1 dX0_addHour_55 (by decide) ?_
        refine x_iadd dX0_addHour_56 ?_
        obtain ⟨m24, h25, hf⟩ := bnd hf
        refine x_putI wF_X0_34 (by decide) (by decide) rfl rfl h25 dX0_addHour_57 ?_
        refine x_iconst 1 dX0_addHour_60 (by decide) ?_
        exact y_zret rfl (by decide) rfl rfl hf dX0_addHour_61
      · rw [if_neg c9] at hf
        refine x_iconst 0 dX0_addHour_28 (by decide) ?_
        exact y_zret rfl (by decide) rfl rfl hf dX0_addHour_29
abbrev LX0_hasHour (G : Gm) (p : Program) (l : Launch) (e : Env) (s : State) (m : MethodId) (args : Array Value) (below : List Frame) (meth : Method) (c : Code) (r : Int32 × Mu) (pc : Nat) (lv : List (Nat × Value)) (st : List Value) (μ : Mu) : Prop := Lt G p l e { frames := 0, cells := 0, slots := 0, locals := 40 * (0) } s m args below meth c cX0_hasHour 2 RX0 (some .boolean) "hasHour" (MQ below (Qm G (some (.int r.1)) r.2 0) args s 0 0 (fA G)) 0 0 pc lv st μ
def fX0_hasHour (a : Nat) (u1 : Int32) (μ : Mu) : Option (Int32 × Mu) := grd (isO 0 a μ) ((if u1 < 0 then
    some (0, μ)
    else
    (gI 0 a 1 μ).bind fun x2 =>
    (if x2 ≤ u1 then
    some (0, μ)
    else
    (if 7 ≤ u1 then
    some (0, μ)
    else
    some (1, μ)))))
set_option maxRecDepth 20000 in
theorem tX0_hasHour {G : Gm} {l : Launch} {r : Int32 × Mu} (a : Nat) (u1 : Int32) (μ : Mu) (hf : fX0_hasHour a u1 μ = some r) : Mt G l yX0_hasHour cX0_hasHour 2 (some .boolean) (0) 0 0 [.ref (gB G + a), .int u1] μ (some (.int r.1)) r.2 := by
  rw [fX0_hasHour] at hf
  have hf := grd_v hf
  refine Mt.of (by decide) (Nat.le_of_ble_eq_true rfl) (fun p e s m args below meth c => ?_)
  show LX0_hasHour G p l e s m args below meth c r 0 [(0, .ref (gB G + a)), (1, .int u1)] [] μ
  refine x_iload_n 1 dX0_hasHour_0 rfl ?_
  refine x_if_lt 22 dX0_hasHour_1 rfl (fun c1 => ?_) (fun c1 => ?_)
  · rw [if_pos c1] at hf
    refine x_iconst 0 dX0_hasHour_22 (by decide) ?_
    exact y_zret rfl (by decide) rfl rfl hf dX0_hasHour_23
  · rw [if_neg c1] at hf
    refine x_iload_n 1 dX0_hasHour_4 rfl ?_
    refine x_aload_n 0 dX0_hasHour_5 rfl ?_
    obtain ⟨x2, h3, hf⟩ := bnd hf
    refine x_getI wF_X0_34 (by decide) (by decide) rfl h3 dX0_hasHour_6 ?_
    refine x_icmp_ge 22 dX0_hasHour_9 rfl (fun c4 => ?_) (fun c4 => ?_)
    · rw [if_pos c4] at hf
      refine x_iconst 0 dX0_hasHour_22 (by decide) ?_
      exact y_zret rfl (by decide) rfl rfl hf dX0_hasHour_23
    · rw [if_neg c4] at hf
      refine x_iload_n 1 dX0_hasHour_12 rfl ?_
      refine x_bipush 7 dX0_hasHour_13 (by decide) ?_
      refine x_icmp_ge 22 dX0_hasHour_15 rfl (fun c5 => ?_) (fun c5 => ?_)
      · rw [if_pos c5] at hf
        refine x_iconst 0 dX0_hasHour_22 (by decide) ?_
        exact y_zret rfl (by decide) rfl rfl hf dX0_hasHour_23
      · rw [if_neg c5] at hf
        refine x_iconst 1 dX0_hasHour_18 (by decide) ?_
        refine x_goto 23 dX0_hasHour_19 rfl ?_
        exact y_zret rfl (by decide) rfl rfl hf dX0_hasHour_23
abbrev LX0_hourAt (G : Gm) (p : Program) (l : Launch) (e : Env) (s : State) (m : MethodId) (args : Array Value) (below : List Frame) (meth : Method) (c : Code) (r : Int32 × Mu) (pc : Nat) (lv : List (Nat × Value)) (st : List Value) (μ : Mu) : Prop := Lt G p l e { frames := 0, cells := 0, slots := 0, locals := 40 * (0) } s m args below meth c cX0_hourAt 4 RX0 (some .int) "hourAt" (MQ below (Qm G (some (.int r.1)) r.2 0) args s 0 0 (fA G)) 0 0 pc lv st μ
def fX0_hourAt_2 : Nat → Nat → Int32 → Int32 → Int32 → Mu → Option (Int32 × Mu)
  | 0, _, _, _, _, _ => none
  | n + 1, v0, v1, v2, v3, μ => (if 7 ≤ v3 then
    some ((-4), μ)
    else
    (gR 0 v0 8 μ).bind fun x2 =>
    (aI 8 x2 v3 μ).bind fun x4 =>
    (if x4 = v1 then
    (gR 0 v0 9 μ).bind fun x7 =>
    (aI 8 x7 v3 μ).bind fun x9 =>
    (if x9 = v2 then
    some (v3, μ)
    else
    (fX0_hourAt_2 n) v0 v1 v2 (v3 + 1) μ)
    else
    (fX0_hourAt_2 n) v0 v1 v2 (v3 + 1) μ))
set_option maxRecDepth 20000 in
theorem tX0_hourAt_2 {G : Gm} {p : Program} {l : Launch} {e : Env} {s : State} {m : MethodId} {args : Array Value} {below : List Frame} {meth : Method} {c : Code} {r : Int32 × Mu} : ∀ (n : Nat) (v0 : Nat) (v1 : Int32) (v2 : Int32) (v3 : Int32) (μ : Mu), fX0_hourAt_2 n v0 v1 v2 v3 μ = some r → LX0_hourAt G p l e s m args below meth c r 2 [(0, .ref (gB G + v0)), (1, .int v1), (2, .int v2), (3, .int v3)] [] μ := by
  intro n
  induction n with
  | zero =>
    intro v0 v1 v2 v3 μ hf
    simp [fX0_hourAt_2] at hf
  | succ n ih =>
    intro v0 v1 v2 v3 μ hf
    rw [fX0_hourAt_2] at hf
    refine x_iload_n 3 dX0_hourAt_2 rfl ?_
    refine x_bipush 7 dX0_hourAt_3 (by decide) ?_
    refine x_icmp_ge 36 dX0_hourAt_5 rfl (fun c1 => ?_) (fun c1 => ?_)
    · rw [if_pos c1] at hf
      refine x_bipush (-4) dX0_hourAt_36 (by decide) ?_
      exact y_iret rfl rfl rfl hf dX0_hourAt_38
    · rw [if_neg c1] at hf
      refine x_aload_n 0 dX0_hourAt_8 rfl ?_
      obtain ⟨x2, h3, hf⟩ := bnd hf
      refine x_getR wF_X0_21 (by decide) (by decide) rfl h3 dX0_hourAt_9 ?_
      refine x_iload_n 3 dX0_hourAt_12 rfl ?_
      obtain ⟨x4, h5, hf⟩ := bnd hf
      refine x_iald h5 dX0_hourAt_13 ?_
      refine x_iload_n 1 dX0_hourAt_14 rfl ?_
      refine x_icmp_ne 30 dX0_hourAt_15 rfl (fun c6 => ?_) (fun c6 => ?_)
      · rw [if_neg c6] at hf
        refine x_iinc 3 (v3 + 1) [1, 2, 3, 0] dX0_hourAt_30 rfl rfl (by decide) (lv' := [(0, .ref (gB G + v0)), (1, .int v1), (2, .int v2), (3, .int (v3 + 1))]) rfl ?_
        refine x_goto 2 dX0_hourAt_33 rfl ?_
        exact ih v0 v1 v2 (v3 + 1) μ hf
      · rw [if_pos c6] at hf
        refine x_aload_n 0 dX0_hourAt_18 rfl ?_
        obtain ⟨x7, h8, hf⟩ := bnd hf
        refine x_getR wF_X0_24 (by decide) (by decide) rfl h8 dX0_hourAt_19 ?_
        refine x_iload_n 3 dX0_hourAt_22 rfl ?_
        obtain ⟨x9, h10, hf⟩ := bnd hf
        refine x_iald h10 dX0_hourAt_23 ?_
        refine x_iload_n 2 dX0_hourAt_24 rfl ?_
        refine x_icmp_ne 30 dX0_hourAt_25 rfl (fun c11 => ?_) (fun c11 => ?_)
        · rw [if_neg c11] at hf
          refine x_iinc 3 (v3 + 1) [1, 2, 3, 0] dX0_hourAt_30 rfl rfl (by decide) (lv' := [(0, .ref (gB G + v0)), (1, .int v1), (2, .int v2), (3, .int (v3 + 1))]) rfl ?_
          refine x_goto 2 dX0_hourAt_33 rfl ?_
          exact ih v0 v1 v2 (v3 + 1) μ hf
        · rw [if_pos c11] at hf
          refine x_iload_n 3 dX0_hourAt_28 rfl ?_
          exact y_iret rfl rfl rfl hf dX0_hourAt_29
def fX0_hourAt (a : Nat) (u1 : Int32) (u2 : Int32) (μ : Mu) : Option (Int32 × Mu) := grd (isO 0 a μ) (fX0_hourAt_2  FU a u1 u2 0 μ)
set_option maxRecDepth 20000 in
theorem tX0_hourAt {G : Gm} {l : Launch} {r : Int32 × Mu} (a : Nat) (u1 : Int32) (u2 : Int32) (μ : Mu) (hf : fX0_hourAt a u1 u2 μ = some r) : Mt G l yX0_hourAt cX0_hourAt 4 (some .int) (0) 0 0 [.ref (gB G + a), .int u1, .int u2] μ (some (.int r.1)) r.2 := by
  rw [fX0_hourAt] at hf
  have hf := grd_v hf
  refine Mt.of (by decide) (Nat.le_of_ble_eq_true rfl) (fun p e s m args below meth c => ?_)
  show LX0_hourAt G p l e s m args below meth c r 0 [(0, .ref (gB G + a)), (1, .int u1), (2, .int u2)] [] μ
  refine x_iconst 0 dX0_hourAt_0 (by decide) ?_
  refine x_istore_n [1, 2, 3, 0] dX0_hourAt_1 (by decide) (lv' := [(0, .ref (gB G + a)), (1, .int u1), (2, .int u2), (3, .int 0)]) rfl ?_
  exact tX0_hourAt_2  FU a u1 u2 0 μ hf
abbrev LX0_needAbove (G : Gm) (p : Program) (l : Launch) (e : Env) (s : State) (m : MethodId) (args : Array Value) (below : List Frame) (meth : Method) (c : Code) (r : Int32 × Mu) (pc : Nat) (lv : List (Nat × Value)) (st : List Value) (μ : Mu) : Prop := Lt G p l e { frames := 0, cells := 0, slots := 0, locals := 40 * (0) } s m args below meth c cX0_needAbove 2 RX0 (some .int) "needAbove" (MQ below (Qm G (some (.int r.1)) r.2 0) args s 0 0 (fA G)) 0 0 pc lv st μ
def fX0_needAbove (u1 : Int32) (u2 : Int32) (μ : Mu) : Option (Int32 × Mu) := (if u2 = 2 then
    (if u1 = 2 then
    some (0, μ)
    else
    (if u2 = 1 then
    some (2, μ)
    else
    some (1, μ)))
    else
    (if u2 = 1 then
    some (2, μ)
    else
    some (1, μ)))
set_option maxRecDepth 20000 in
theorem tX0_needAbove {G : Gm} {l : Launch} {r : Int32 × Mu} (u1 : Int32) (u2 : Int32) (μ : Mu) (hf : fX0_needAbove u1 u2 μ = some r) : Mt G l yX0_needAbove cX0_needAbove 2 (some .int) (0) 0 0 [.int u1, .int u2] μ (some (.int r.1)) r.2 := by
  rw [fX0_needAbove] at hf
  refine Mt.of (by decide) (Nat.le_of_ble_eq_true rfl) (fun p e s m args below meth c => ?_)
  show LX0_needAbove G p l e s m args below meth c r 0 [(0, .int u1), (1, .int u2)] [] μ
  refine x_iload_n 1 dX0_needAbove_0 rfl ?_
  refine x_iconst 2 dX0_needAbove_1 (by decide) ?_
  refine x_icmp_ne 12 dX0_needAbove_2 rfl (fun c1 => ?_) (fun c1 => ?_)
  · rw [if_neg c1] at hf
    refine x_iload_n 1 dX0_needAbove_12 rfl ?_
    refine x_iconst 1 dX0_needAbove_13 (by decide) ?_
    refine x_icmp_ne 21 dX0_needAbove_14 rfl (fun c2 => ?_) (fun c2 => ?_)
    · rw [if_neg c2] at hf
      refine x_iconst 1 dX0_needAbove_21 (by decide) ?_
      exact y_iret rfl rfl rfl hf dX0_needAbove_22
    · rw [if_pos c2] at hf
      refine x_iconst 2 dX0_needAbove_17 (by decide) ?_
      refine x_goto 22 dX0_needAbove_18 rfl ?_
      exact y_iret rfl rfl rfl hf dX0_needAbove_22
  · rw [if_pos c1] at hf
    refine x_iload_n 0 dX0_needAbove_5 rfl ?_
    refine x_iconst 2 dX0_needAbove_6 (by decide) ?_
    refine x_icmp_ne 12 dX0_needAbove_7 rfl (fun c3 => ?_) (fun c3 => ?_)
    · rw [if_neg c3] at hf
      refine x_iload_n 1 dX0_needAbove_12 rfl ?_
      refine x_iconst 1 dX0_needAbove_13 (by decide) ?_
      refine x_icmp_ne 21 dX0_needAbove_14 rfl (fun c4 => ?_) (fun c4 => ?_)
      · rw [if_neg c4] at hf
        refine x_iconst 1 dX0_needAbove_21 (by decide) ?_
        exact y_iret rfl rfl rfl hf dX0_needAbove_22
      · rw [if_pos c4] at hf
        refine x_iconst 2 dX0_needAbove_17 (by decide) ?_
        refine x_goto 22 dX0_needAbove_18 rfl ?_
        exact y_iret rfl rfl rfl hf dX0_needAbove_22
    · rw [if_pos c3] at hf
      refine x_iconst 0 dX0_needAbove_10 (by decide) ?_
      exact y_iret rfl rfl rfl hf dX0_needAbove_11
abbrev LX0_needOf (G : Gm) (p : Program) (l : Launch) (e : Env) (s : State) (m : MethodId) (args : Array Value) (below : List Frame) (meth : Method) (c : Code) (r : Int32 × Mu) (pc : Nat) (lv : List (Nat × Value)) (st : List Value) (μ : Mu) : Prop := Lt G p l e { frames := 1, cells := 0, slots := 0, locals := 40 * (1) } s m args below meth c cX0_needOf 3 RX0 (some .int) "needOf" (MQ below (Qm G (some (.int r.1)) r.2 0) args s 0 0 (fA G)) 0 0 pc lv st μ
def fX0_needOf (a : Nat) (u1 : Int32) (μ : Mu) : Option (Int32 × Mu) := grd (isO 0 a μ) ((fX0_hasHour a u1 μ).bind fun q1 =>
    (if q1.1 = 0 then
    some (0, q1.2)
    else
    (gR 0 a 8 q1.2).bind fun x4 =>
    (aI 8 x4 u1 q1.2).bind fun x6 =>
    (gR 0 a 9 q1.2).bind fun x8 =>
    (aI 8 x8 u1 q1.2).bind fun x10 =>
    (fX0_hourAt a x6 (x10 - 1) q1.2).bind fun q12 =>
    (fX0_hasHour a q12.1 q12.2).bind fun q14 =>
    (if q14.1 = 0 then
    (gR 0 a 6 q14.2).bind fun x17 =>
    (aI 8 x17 u1 q14.2).bind fun x19 =>
    (fX0_needAbove (-1) x19 q14.2).bind fun q21 =>
    some (q21.1, q21.2)
    else
    (gR 0 a 6 q14.2).bind fun x23 =>
    (aI 8 x23 q12.1 q14.2).bind fun x25 =>
    (gR 0 a 6 q14.2).bind fun x27 =>
    (aI 8 x27 u1 q14.2).bind fun x29 =>
    (fX0_needAbove x25 x29 q14.2).bind fun q31 =>
    some (q31.1, q31.2))))
set_option maxRecDepth 20000 in
theorem tX0_needOf {G : Gm} {l : Launch} {r : Int32 × Mu} (a : Nat) (u1 : Int32) (μ : Mu) (hf : fX0_needOf a u1 μ = some r) : Mt G l yX0_needOf cX0_needOf 3 (some .int) (1) 0 0 [.ref (gB G + a), .int u1] μ (some (.int r.1)) r.2 := by
  rw [fX0_needOf] at hf
  have hf := grd_v hf
  refine Mt.of (by decide) (Nat.le_of_ble_eq_true rfl) (fun p e s m args below meth c => ?_)
  show LX0_needOf G p l e s m args below meth c r 0 [(0, .ref (gB G + a)), (1, .int u1)] [] μ
  refine x_aload_n 0 dX0_needOf_0 rfl ?_
  refine x_iload_n 1 dX0_needOf_1 rfl ?_
  obtain ⟨q1, h2, hf⟩ := bnd hf
  refine x_callVi (rest := []) [.int u1] (tX0_hasHour a u1 μ h2) wY_X0_hasHour wI_X0_hasHour wS_X0_hasHour wL_X0_66 (grd_p h2) (by decide) rfl rfl (Nat.le_of_ble_eq_true rfl) ⟨Nat.le_of_ble_eq_true rfl, Nat.le_of_ble_eq_true rfl⟩ ⟨Nat.le_refl _, Nat.le_refl _⟩ dX0_needOf_2 ?_
  refine x_if_ne 10 dX0_needOf_5 rfl (fun c3 => ?_) (fun c3 => ?_)
  · rw [if_neg c3] at hf
    refine x_aload_n 0 dX0_needOf_10 rfl ?_
    refine x_aload_n 0 dX0_needOf_11 rfl ?_
    obtain ⟨x4, h5, hf⟩ := bnd hf
    refine x_getR wF_X0_21 (by decide) (by decide) rfl h5 dX0_needOf_12 ?_
    refine x_iload_n 1 dX0_needOf_15 rfl ?_
    obtain ⟨x6, h7, hf⟩ := bnd hf
    refine x_iald h7 dX0_needOf_16 ?_
    refine x_aload_n 0 dX0_needOf_17 rfl ?_
    obtain ⟨x8, h9, hf⟩ := bnd hf
    refine x_getR wF_X0_24 (by decide) (by decide) rfl h9 dX0_needOf_18 ?_
    refine x_iload_n 1 dX0_needOf_21 rfl ?_
    obtain ⟨x10, h11, hf⟩ := bnd hf
    refine x_iald h11 dX0_needOf_22 ?_
    refine x_iconst 1 dX0_needOf_23 (by decide) ?_
    refine x_isub dX0_needOf_24 ?_
    obtain ⟨q12, h13, hf⟩ := bnd hf
    refine x_callVi (rest := []) [.int x6, .int (x10 - 1)] (tX0_hourAt a x6 (x10 - 1) q1.2 h13) wY_X0_hourAt wI_X0_hourAt wS_X0_hourAt wL_X0_73 (grd_p h13) (by decide) rfl rfl (Nat.le_of_ble_eq_true rfl) ⟨Nat.le_of_ble_eq_true rfl, Nat.le_of_ble_eq_true rfl⟩ ⟨Nat.le_refl _, Nat.le_refl _⟩ dX0_needOf_25 ?_
    refine x_istore_n [1, 2, 0] dX0_needOf_28 (by decide) (lv' := [(0, .ref (gB G + a)), (1, .int u1), (2, .int q12.1)]) rfl ?_
    refine x_aload_n 0 dX0_needOf_29 rfl ?_
    refine x_iload_n 2 dX0_needOf_30 rfl ?_
    obtain ⟨q14, h15, hf⟩ := bnd hf
    refine x_callVi (rest := []) [.int q12.1] (tX0_hasHour a q12.1 q12.2 h15) wY_X0_hasHour wI_X0_hasHour wS_X0_hasHour wL_X0_66 (grd_p h15) (by decide) rfl rfl (Nat.le_of_ble_eq_true rfl) ⟨Nat.le_of_ble_eq_true rfl, Nat.le_of_ble_eq_true rfl⟩ ⟨Nat.le_refl _, Nat.le_refl _⟩ dX0_needOf_31 ?_
    refine x_if_eq 46 dX0_needOf_34 rfl (fun c16 => ?_) (fun c16 => ?_)
    · rw [if_pos c16] at hf
      refine x_iconst (-1) dX0_needOf_46 (by decide) ?_
      refine x_aload_n 0 dX0_needOf_47 rfl ?_
      obtain ⟨x17, h18, hf⟩ := bnd hf
      refine x_getR wF_X0_15 (by decide) (by decide) rfl h18 dX0_needOf_48 ?_
      refine x_iload_n 1 dX0_needOf_51 rfl ?_
      obtain ⟨x19, h20, hf⟩ := bnd hf
      refine x_iald h20 dX0_needOf_52 ?_
      obtain ⟨q21, h22, hf⟩ := bnd hf
      refine x_callSi (rest := []) [.int (-1), .int x19] (tX0_needAbove (-1) x19 q14.2 h22) wY_X0_needAbove wT_X0_needAbove wL_X0_77 rfl (Nat.le_of_ble_eq_true rfl) ⟨Nat.le_of_ble_eq_true rfl, Nat.le_of_ble_eq_true rfl⟩ ⟨Nat.le_refl _, Nat.le_refl _⟩ dX0_needOf_53 ?_
      exact y_iret rfl rfl rfl hf dX0_needOf_56
    · rw [if_neg c16] at hf
      refine x_aload_n 0 dX0_needOf_37 rfl ?_
      obtain ⟨x23, h24, hf⟩ := bnd hf
      refine x_getR wF_X0_15 (by decide) (by decide) rfl h24 dX0_needOf_38 ?_
      refine x_iload_n 2 dX0_needOf_41 rfl ?_
      obtain ⟨x25, h26, hf⟩ := bnd hf
      refine x_iald h26 dX0_needOf_42 ?_
      refine x_goto 47 dX0_needOf_43 rfl ?_
      refine x_aload_n 0 dX0_needOf_47 rfl ?_
      obtain ⟨x27, h28, hf⟩ := bnd hf
      refine x_getR wF_X0_15 (by decide) (by decide) rfl h28 dX0_needOf_48 ?_
      refine x_iload_n 1 dX0_needOf_51 rfl ?_
      obtain ⟨x29, h30, hf⟩ := bnd hf
      refine x_iald h30 dX0_needOf_52 ?_
      obtain ⟨q31, h32, hf⟩ := bnd hf
      refine x_callSi (rest := []) [.int x25, .int x29] (tX0_needAbove x25 x29 q14.2 h32) wY_X0_needAbove wT_X0_needAbove wL_X0_77 rfl (Nat.le_of_ble_eq_true rfl) ⟨Nat.le_of_ble_eq_true rfl, Nat.le_of_ble_eq_true rfl⟩ ⟨Nat.le_refl _, Nat.le_refl _⟩ dX0_needOf_53 ?_
      exact y_iret rfl rfl rfl hf dX0_needOf_56
  · rw [if_pos c3] at hf
    refine x_iconst 0 dX0_needOf_8 (by decide) ?_
    exact y_iret rfl rfl rfl hf dX0_needOf_9
abbrev LX0_hasPlot (G : Gm) (p : Program) (l : Launch) (e : Env) (s : State) (m : MethodId) (args : Array Value) (below : List Frame) (meth : Method) (c : Code) (r : Int32 × Mu) (pc : Nat) (lv : List (Nat × Value)) (st : List Value) (μ : Mu) : Prop := Lt G p l e { frames := 0, cells := 0, slots := 0, locals := 40 * (0) } s m args below meth c cX0_hasPlot 2 RX0 (some .boolean) "hasPlot" (MQ below (Qm G (some (.int r.1)) r.2 0) args s 0 0 (fA G)) 0 0 pc lv st μ
def fX0_hasPlot (a : Nat) (u1 : Int32) (μ : Mu) : Option (Int32 × Mu) := grd (isO 0 a μ) ((if u1 < 0 then
    some (0, μ)
    else
    (gI 0 a 0 μ).bind fun x2 =>
    (if x2 ≤ u1 then
    some (0, μ)
    else
    (if 5 ≤ u1 then
    some (0, μ)
    else
    some (1, μ)))))
set_option maxRecDepth 20000 in
theorem tX0_hasPlot {G : Gm} {l : Launch} {r : Int32 × Mu} (a : Nat) (u1 : Int32) (μ : Mu) (hf : fX0_hasPlot a u1 μ = some r) : Mt G l yX0_hasPlot cX0_hasPlot 2 (some .boolean) (0) 0 0 [.ref (gB G + a), .int u1] μ (some (.int r.1)) r.2 := by
  rw [fX0_hasPlot] at hf
  have hf := grd_v hf
  refine Mt.of (by decide) (Nat.le_of_ble_eq_true rfl) (fun p e s m args below meth c => ?_)
  show LX0_hasPlot G p l e s m args below meth c r 0 [(0, .ref (gB G + a)), (1, .int u1)] [] μ
  refine x_iload_n 1 dX0_hasPlot_0 rfl ?_
  refine x_if_lt 21 dX0_hasPlot_1 rfl (fun c1 => ?_) (fun c1 => ?_)
  · rw [if_pos c1] at hf
    refine x_iconst 0 dX0_hasPlot_21 (by decide) ?_
    exact y_zret rfl (by decide) rfl rfl hf dX0_hasPlot_22
  · rw [if_neg c1] at hf
    refine x_iload_n 1 dX0_hasPlot_4 rfl ?_
    refine x_aload_n 0 dX0_hasPlot_5 rfl ?_
    obtain ⟨x2, h3, hf⟩ := bnd hf
    refine x_getI wF_X0_30 (by decide) (by decide) rfl h3 dX0_hasPlot_6 ?_
    refine x_icmp_ge 21 dX0_hasPlot_9 rfl (fun c4 => ?_) (fun c4 => ?_)
    · rw [if_pos c4] at hf
      refine x_iconst 0 dX0_hasPlot_21 (by decide) ?_
      exact y_zret rfl (by decide) rfl rfl hf dX0_hasPlot_22
    · rw [if_neg c4] at hf
      refine x_iload_n 1 dX0_hasPlot_12 rfl ?_
      refine x_iconst 5 dX0_hasPlot_13 (by decide) ?_
      refine x_icmp_ge 21 dX0_hasPlot_14 rfl (fun c5 => ?_) (fun c5 => ?_)
      · rw [if_pos c5] at hf
        refine x_iconst 0 dX0_hasPlot_21 (by decide) ?_
        exact y_zret rfl (by decide) rfl rfl hf dX0_hasPlot_22
      · rw [if_neg c5] at hf
        refine x_iconst 1 dX0_hasPlot_17 (by decide) ?_
        refine x_goto 22 dX0_hasPlot_18 rfl ?_
        exact y_zret rfl (by decide) rfl rfl hf dX0_hasPlot_22
abbrev LX0_roomOf (G : Gm) (p : Program) (l : Launch) (e : Env) (s : State) (m : MethodId) (args : Array Value) (below : List Frame) (meth : Method) (c : Code) (r : Int32 × Mu) (pc : Nat) (lv : List (Nat × Value)) (st : List Value) (μ : Mu) : Prop := Lt G p l e { frames := 1, cells := 0, slots := 0, locals := 40 * (1) } s m args below meth c cX0_roomOf 2 RX0 (some .int) "roomOf" (MQ below (Qm G (some (.int r.1)) r.2 0) args s 0 0 (fA G)) 0 0 pc lv st μ
def fX0_roomOf (a : Nat) (u1 : Int32) (μ : Mu) : Option (Int32 × Mu) := grd (isO 0 a μ) ((fX0_hasPlot a u1 μ).bind fun q1 =>
    (if q1.1 = 0 then
    some (0, q1.2)
    else
    (gR 0 a 5 q1.2).bind fun x4 =>
    (aI 8 x4 u1 q1.2).bind fun x6 =>
    some (x6, q1.2)))
set_option maxRecDepth 20000 in
theorem tX0_roomOf {G : Gm} {l : Launch} {r : Int32 × Mu} (a : Nat) (u1 : Int32) (μ : Mu) (hf : fX0_roomOf a u1 μ = some r) : Mt G l yX0_roomOf cX0_roomOf 2 (some .int) (1) 0 0 [.ref (gB G + a), .int u1] μ (some (.int r.1)) r.2 := by
  rw [fX0_roomOf] at hf
  have hf := grd_v hf
  refine Mt.of (by decide) (Nat.le_of_ble_eq_true rfl) (fun p e s m args below meth c => ?_)
  show LX0_roomOf G p l e s m args below meth c r 0 [(0, .ref (gB G + a)), (1, .int u1)] [] μ
  refine x_aload_n 0 dX0_roomOf_0 rfl ?_
  refine x_iload_n 1 dX0_roomOf_1 rfl ?_
  obtain ⟨q1, h2, hf⟩ := bnd hf
  refine x_callVi (rest := []) [.int u1] (tX0_hasPlot a u1 μ h2) wY_X0_hasPlot wI_X0_hasPlot wS_X0_hasPlot wL_X0_62 (grd_p h2) (by decide) rfl rfl (Nat.le_of_ble_eq_true rfl) ⟨Nat.le_of_ble_eq_true rfl, Nat.le_of_ble_eq_true rfl⟩ ⟨Nat.le_refl _, Nat.le_refl _⟩ dX0_roomOf_2 ?_
  refine x_if_eq 17 dX0_roomOf_5 rfl (fun c3 => ?_) (fun c3 => ?_)
  · rw [if_pos c3] at hf
    refine x_iconst 0 dX0_roomOf_17 (by decide) ?_
    exact y_iret rfl rfl rfl hf dX0_roomOf_18
  · rw [if_neg c3] at hf
    refine x_aload_n 0 dX0_roomOf_8 rfl ?_
    obtain ⟨x4, h5, hf⟩ := bnd hf
    refine x_getR wF_X0_9 (by decide) (by decide) rfl h5 dX0_roomOf_9 ?_
    refine x_iload_n 1 dX0_roomOf_12 rfl ?_
    obtain ⟨x6, h7, hf⟩ := bnd hf
    refine x_iald h7 dX0_roomOf_13 ?_
    refine x_goto 18 dX0_roomOf_14 rfl ?_
    exact y_iret rfl rfl rfl hf dX0_roomOf_18
abbrev LX0_freeIn (G : Gm) (p : Program) (l : Launch) (e : Env) (s : State) (m : MethodId) (args : Array Value) (below : List Frame) (meth : Method) (c : Code) (r : Int32 × Mu) (pc : Nat) (lv : List (Nat × Value)) (st : List Value) (μ : Mu) : Prop := Lt G p l e { frames := 2, cells := 0, slots := 0, locals := 40 * (2) } s m args below meth c cX0_freeIn 4 RX0 (some .int) "freeIn" (MQ below (Qm G (some (.int r.1)) r.2 0) args s 0 0 (fA G)) 0 0 pc lv st μ
def fX0_freeIn_8 : Nat → Nat → Int32 → Int32 → Int32 → Mu → Option (Int32 × Mu)
  | 0, _, _, _, _, _ => none
  | n + 1, v0, v1, v2, v3, μ => (if 7 ≤ v3 then
    some (v2, μ)
    else
    (gR 0 v0 8 μ).bind fun x4 =>
    (aI 8 x4 v3 μ).bind fun x6 =>
    (if x6 = v1 then
    (fX0_needOf v0 v3 μ).bind fun q9 =>
    (fX0_freeIn_8 n) v0 v1 (v2 - q9.1) (v3 + 1) q9.2
    else
    (fX0_freeIn_8 n) v0 v1 v2 (v3 + 1) μ))
set_option maxRecDepth 20000 in
theorem tX0_freeIn_8 {G : Gm} {p : Program} {l : Launch} {e : Env} {s : State} {m : MethodId} {args : Array Value} {below : List Frame} {meth : Method} {c : Code} {r : Int32 × Mu} : ∀ (n : Nat) (v0 : Nat) (v1 : Int32) (v2 : Int32) (v3 : Int32) (μ : Mu), fX0_freeIn_8 n v0 v1 v2 v3 μ = some r → LX0_freeIn G p l e s m args below meth c r 8 [(0, .ref (gB G + v0)), (1, .int v1), (2, .int v2), (3, .int v3)] [] μ := by
  intro n
  induction n with
  | zero =>
    intro v0 v1 v2 v3 μ hf
    simp [fX0_freeIn_8] at hf
  | succ n ih =>
    intro v0 v1 v2 v3 μ hf
    rw [fX0_freeIn_8] at hf
    refine x_iload_n 3 dX0_freeIn_8 rfl ?_
    refine x_bipush 7 dX0_freeIn_9 (by decide) ?_
    refine x_icmp_ge 38 dX0_freeIn_11 rfl (fun c3 => ?_) (fun c3 => ?_)
    · rw [if_pos c3] at hf
      refine x_iload_n 2 dX0_freeIn_38 rfl ?_
      exact y_iret rfl rfl rfl hf dX0_freeIn_39
    · rw [if_neg c3] at hf
      refine x_aload_n 0 dX0_freeIn_14 rfl ?_
      obtain ⟨x4, h5, hf⟩ := bnd hf
      refine x_getR wF_X0_21 (by decide) (by decide) rfl h5 dX0_freeIn_15 ?_
      refine x_iload_n 3 dX0_freeIn_18 rfl ?_
      obtain ⟨x6, h7, hf⟩ := bnd hf
      refine x_iald h7 dX0_freeIn_19 ?_
      refine x_iload_n 1 dX0_freeIn_20 rfl ?_
      refine x_icmp_ne 32 dX0_freeIn_21 rfl (fun c8 => ?_) (fun c8 => ?_)
      · rw [if_neg c8] at hf
        refine x_iinc 3 (v3 + 1) [1, 2, 3, 0] dX0_freeIn_32 rfl rfl (by decide) (lv' := [(0, .ref (gB G + v0)), (1, .int v1), (2, .int v2), (3, .int (v3 + 1))]) rfl ?_
        refine x_goto 8 dX0_freeIn_35 rfl ?_
        exact ih v0 v1 v2 (v3 + 1) μ hf
      · rw [if_pos c8] at hf
        refine x_iload_n 2 dX0_freeIn_24 rfl ?_
        refine x_aload_n 0 dX0_freeIn_25 rfl ?_
        refine x_iload_n 3 dX0_freeIn_26 rfl ?_
        obtain ⟨q9, h10, hf⟩ := bnd hf
        refine x_callVi (rest := [.int v2]) [.int v3] (tX0_needOf v0 v3 μ h10) wY_X0_needOf wI_X0_needOf wS_X0_needOf wL_X0_83 (grd_p h10) (by decide) rfl rfl (Nat.le_of_ble_eq_true rfl) ⟨Nat.le_of_ble_eq_true rfl, Nat.le_of_ble_eq_true rfl⟩ ⟨Nat.le_refl _, Nat.le_refl _⟩ dX0_freeIn_27 ?_
        refine x_isub dX0_freeIn_30 ?_
        refine x_istore_n [1, 2, 0, 3] dX0_freeIn_31 (by decide) (lv' := [(0, .ref (gB G + v0)), (1, .int v1), (2, .int (v2 - q9.1)), (3, .int v3)]) rfl ?_
        refine x_iinc 3 (v3 + 1) [1, 2, 3, 0] dX0_freeIn_32 rfl rfl (by decide) (lv' := [(0, .ref (gB G + v0)), (1, .int v1), (2, .int (v2 - q9.1)), (3, .int (v3 + 1))]) rfl ?_
        refine x_goto 8 dX0_freeIn_35 rfl ?_
        exact ih v0 v1 (v2 - q9.1) (v3 + 1) q9.2 hf
def fX0_freeIn (a : Nat) (u1 : Int32) (μ : Mu) : Option (Int32 × Mu) := grd (isO 0 a μ) ((fX0_roomOf a u1 μ).bind fun q1 =>
    fX0_freeIn_8  FU a u1 q1.1 0 q1.2)
set_option maxRecDepth 20000 in
theorem tX0_freeIn {G : Gm} {l : Launch} {r : Int32 × Mu} (a : Nat) (u1 : Int32) (μ : Mu) (hf : fX0_freeIn a u1 μ = some r) : Mt G l yX0_freeIn cX0_freeIn 4 (some .int) (2) 0 0 [.ref (gB G + a), .int u1] μ (some (.int r.1)) r.2 := by
  rw [fX0_freeIn] at hf
  have hf := grd_v hf
  refine Mt.of (by decide) (Nat.le_of_ble_eq_true rfl) (fun p e s m args below meth c => ?_)
  show LX0_freeIn G p l e s m args below meth c r 0 [(0, .ref (gB G + a)), (1, .int u1)] [] μ
  refine x_aload_n 0 dX0_freeIn_0 rfl ?_
  refine x_iload_n 1 dX0_freeIn_1 rfl ?_
  obtain ⟨q1, h2, hf⟩ := bnd hf
  refine x_callVi (rest := []) [.int u1] (tX0_roomOf a u1 μ h2) wY_X0_roomOf wI_X0_roomOf wS_X0_roomOf wL_X0_80 (grd_p h2) (by decide) rfl rfl (Nat.le_of_ble_eq_true rfl) ⟨Nat.le_of_ble_eq_true rfl, Nat.le_of_ble_eq_true rfl⟩ ⟨Nat.le_refl _, Nat.le_refl _⟩ dX0_freeIn_2 ?_
  refine x_istore_n [1, 2, 0] dX0_freeIn_5 (by decide) (lv' := [(0, .ref (gB G + a)), (1, .int u1), (2, .int q1.1)]) rfl ?_
  refine x_iconst 0 dX0_freeIn_6 (by decide) ?_
  refine x_istore_n [1, 2, 3, 0] dX0_freeIn_7 (by decide) (lv' := [(0, .ref (gB G + a)), (1, .int u1), (2, .int q1.1), (3, .int 0)]) rfl ?_
  exact tX0_freeIn_8  FU a u1 q1.1 0 q1.2 hf
abbrev LX0_kindOf (G : Gm) (p : Program) (l : Launch) (e : Env) (s : State) (m : MethodId) (args : Array Value) (below : List Frame) (meth : Method) (c : Code) (r : Int32 × Mu) (pc : Nat) (lv : List (Nat × Value)) (st : List Value) (μ : Mu) : Prop := Lt G p l e { frames := 1, cells := 0, slots := 0, locals := 40 * (1) } s m args below meth c cX0_kindOf 2 RX0 (some .int) "kindOf" (MQ below (Qm G (some (.int r.1)) r.2 0) args s 0 0 (fA G)) 0 0 pc lv st μ
def fX0_kindOf (a : Nat) (u1 : Int32) (μ : Mu) : Option (Int32 × Mu) := grd (isO 0 a μ) ((fX0_hasHour a u1 μ).bind fun q1 =>
    (if q1.1 = 0 then
    some ((-1), q1.2)
    else
    (gR 0 a 6 q1.2).bind fun x4 =>
    (aI 8 x4 u1 q1.2).bind fun x6 =>
    some (x6, q1.2)))
set_option maxRecDepth 20000 in
theorem tX0_kindOf {G : Gm} {l : Launch} {r : Int32 × Mu} (a : Nat) (u1 : Int32) (μ : Mu) (hf : fX0_kindOf a u1 μ = some r) : Mt G l yX0_kindOf cX0_kindOf 2 (some .int) (1) 0 0 [.ref (gB G + a), .int u1] μ (some (.int r.1)) r.2 := by
  rw [fX0_kindOf] at hf
  have hf := grd_v hf
  refine Mt.of (by decide) (Nat.le_of_ble_eq_true rfl) (fun p e s m args below meth c => ?_)
  show LX0_kindOf G p l e s m args below meth c r 0 [(0, .ref (gB G + a)), (1, .int u1)] [] μ
  refine x_aload_n 0 dX0_kindOf_0 rfl ?_
  refine x_iload_n 1 dX0_kindOf_1 rfl ?_
  obtain ⟨q1, h2, hf⟩ := bnd hf
  refine x_callVi (rest := []) [.int u1] (tX0_hasHour a u1 μ h2) wY_X0_hasHour wI_X0_hasHour wS_X0_hasHour wL_X0_66 (grd_p h2) (by decide) rfl rfl (Nat.le_of_ble_eq_true rfl) ⟨Nat.le_of_ble_eq_true rfl, Nat.le_of_ble_eq_true rfl⟩ ⟨Nat.le_refl _, Nat.le_refl _⟩ dX0_kindOf_2 ?_
  refine x_if_eq 17 dX0_kindOf_5 rfl (fun c3 => ?_) (fun c3 => ?_)
  · rw [if_pos c3] at hf
    refine x_iconst (-1) dX0_kindOf_17 (by decide) ?_
    exact y_iret rfl rfl rfl hf dX0_kindOf_18
  · rw [if_neg c3] at hf
    refine x_aload_n 0 dX0_kindOf_8 rfl ?_
    obtain ⟨x4, h5, hf⟩ := bnd hf
    refine x_getR wF_X0_15 (by decide) (by decide) rfl h5 dX0_kindOf_9 ?_
    refine x_iload_n 1 dX0_kindOf_12 rfl ?_
    obtain ⟨x6, h7, hf⟩ := bnd hf
    refine x_iald h7 dX0_kindOf_13 ?_
    refine x_goto 18 dX0_kindOf_14 rfl ?_
    exact y_iret rfl rfl rfl hf dX0_kindOf_18
abbrev LX0_placeOf (G : Gm) (p : Program) (l : Launch) (e : Env) (s : State) (m : MethodId) (args : Array Value) (below : List Frame) (meth : Method) (c : Code) (r : Int32 × Mu) (pc : Nat) (lv : List (Nat × Value)) (st : List Value) (μ : Mu) : Prop := Lt G p l e { frames := 1, cells := 0, slots := 0, locals := 40 * (1) } s m args below meth c cX0_placeOf 2 RX0 (some .int) "placeOf" (MQ below (Qm G (some (.int r.1)) r.2 0) args s 0 0 (fA G)) 0 0 pc lv st μ
def fX0_placeOf (a : Nat) (u1 : Int32) (μ : Mu) : Option (Int32 × Mu) := grd (isO 0 a μ) ((fX0_hasHour a u1 μ).bind fun q1 =>
    (if q1.1 = 0 then
    some ((-4), q1.2)
    else
    (gR 0 a 8 q1.2).bind fun x4 =>
    (aI 8 x4 u1 q1.2).bind fun x6 =>
    some (x6, q1.2)))
set_option maxRecDepth 20000 in
theorem tX0_placeOf {G : Gm} {l : Launch} {r : Int32 × Mu} (a : Nat) (u1 : Int32) (μ : Mu) (hf : fX0_placeOf a u1 μ = some r) : Mt G l yX0_placeOf cX0_placeOf 2 (some .int) (1) 0 0 [.ref (gB G + a), .int u1] μ (some (.int r.1)) r.2 := by
  rw [fX0_placeOf] at hf
  have hf := grd_v hf
  refine Mt.of (by decide) (Nat.le_of_ble_eq_true rfl) (fun p e s m args below meth c => ?_)
  show LX0_placeOf G p l e s m args below meth c r 0 [(0, .ref (gB G + a)), (1, .int u1)] [] μ
  refine x_aload_n 0 dX0_placeOf_0 rfl ?_
  refine x_iload_n 1 dX0_placeOf_1 rfl ?_
  obtain ⟨q1, h2, hf⟩ := bnd hf
  refine x_callVi (rest := []) [.int u1] (tX0_hasHour a u1 μ h2) wY_X0_hasHour wI_X0_hasHour wS_X0_hasHour wL_X0_66 (grd_p h2) (by decide) rfl rfl (Nat.le_of_ble_eq_true rfl) ⟨Nat.le_of_ble_eq_true rfl, Nat.le_of_ble_eq_true rfl⟩ ⟨Nat.le_refl _, Nat.le_refl _⟩ dX0_placeOf_2 ?_
  refine x_if_eq 17 dX0_placeOf_5 rfl (fun c3 => ?_) (fun c3 => ?_)
  · rw [if_pos c3] at hf
    refine x_bipush (-4) dX0_placeOf_17 (by decide) ?_
    exact y_iret rfl rfl rfl hf dX0_placeOf_19
  · rw [if_neg c3] at hf
    refine x_aload_n 0 dX0_placeOf_8 rfl ?_
    obtain ⟨x4, h5, hf⟩ := bnd hf
    refine x_getR wF_X0_21 (by decide) (by decide) rfl h5 dX0_placeOf_9 ?_
    refine x_iload_n 1 dX0_placeOf_12 rfl ?_
    obtain ⟨x6, h7, hf⟩ := bnd hf
    refine x_iald h7 dX0_placeOf_13 ?_
    refine x_goto 19 dX0_placeOf_14 rfl ?_
    exact y_iret rfl rfl rfl hf dX0_placeOf_19
abbrev LX0_heightOf (G : Gm) (p : Program) (l : Launch) (e : Env) (s : State) (m : MethodId) (args : Array Value) (below : List Frame) (meth : Method) (c : Code) (r : Int32 × Mu) (pc : Nat) (lv : List (Nat × Value)) (st : List Value) (μ : Mu) : Prop := Lt G p l e { frames := 0, cells := 0, slots := 0, locals := 40 * (0) } s m args below meth c cX0_heightOf 4 RX0 (some .int) "heightOf" (MQ below (Qm G (some (.int r.1)) r.2 0) args s 0 0 (fA G)) 0 0 pc lv st μ
def fX0_heightOf_4 : Nat → Nat → Int32 → Int32 → Int32 → Mu → Option (Int32 × Mu)
  | 0, _, _, _, _, _ => none
  | n + 1, v0, v1, v2, v3, μ => (if 7 ≤ v3 then
    some (v2, μ)
    else
    (gR 0 v0 8 μ).bind fun x2 =>
    (aI 8 x2 v3 μ).bind fun x4 =>
    (if x4 = v1 then
    (fX0_heightOf_4 n) v0 v1 (v2 + 1) (v3 + 1) μ
    else
    (fX0_heightOf_4 n) v0 v1 v2 (v3 + 1) μ))
set_option maxRecDepth 20000 in
theorem tX0_heightOf_4 {G : Gm} {p : Program} {l : Launch} {e : Env} {s : State} {m : MethodId} {args : Array Value} {below : List Frame} {meth : Method} {c : Code} {r : Int32 × Mu} : ∀ (n : Nat) (v0 : Nat) (v1 : Int32) (v2 : Int32) (v3 : Int32) (μ : Mu), fX0_heightOf_4 n v0 v1 v2 v3 μ = some r → LX0_heightOf G p l e s m args below meth c r 4 [(0, .ref (gB G + v0)), (1, .int v1), (2, .int v2), (3, .int v3)] [] μ := by
  intro n
  induction n with
  | zero =>
    intro v0 v1 v2 v3 μ hf
    simp [fX0_heightOf_4] at hf
  | succ n ih =>
    intro v0 v1 v2 v3 μ hf
    rw [fX0_heightOf_4] at hf
    refine x_iload_n 3 dX0_heightOf_4 rfl ?_
    refine x_bipush 7 dX0_heightOf_5 (by decide) ?_
    refine x_icmp_ge 29 dX0_heightOf_7 rfl (fun c1 => ?_) (fun c1 => ?_)
    · rw [if_pos c1] at hf
      refine x_iload_n 2 dX0_heightOf_29 rfl ?_
      exact y_iret rfl rfl rfl hf dX0_heightOf_30
    · rw [if_neg c1] at hf
      refine x_aload_n 0 dX0_heightOf_10 rfl ?_
      obtain ⟨x2, h3, hf⟩ := bnd hf
      refine x_getR wF_X0_21 (by decide) (by decide) rfl h3 dX0_heightOf_11 ?_
      refine x_iload_n 3 dX0_heightOf_14 rfl ?_
      obtain ⟨x4, h5, hf⟩ := bnd hf
      refine x_iald h5 dX0_heightOf_15 ?_
      refine x_iload_n 1 dX0_heightOf_16 rfl ?_
      refine x_icmp_ne 23 dX0_heightOf_17 rfl (fun c6 => ?_) (fun c6 => ?_)
      · rw [if_neg c6] at hf
        refine x_iinc 3 (v3 + 1) [1, 2, 3, 0] dX0_heightOf_23 rfl rfl (by decide) (lv' := [(0, .ref (gB G + v0)), (1, .int v1), (2, .int v2), (3, .int (v3 + 1))]) rfl ?_
        refine x_goto 4 dX0_heightOf_26 rfl ?_
        exact ih v0 v1 v2 (v3 + 1) μ hf
      · rw [if_pos c6] at hf
        refine x_iinc 2 (v2 + 1) [1, 2, 0, 3] dX0_heightOf_20 rfl rfl (by decide) (lv' := [(0, .ref (gB G + v0)), (1, .int v1), (2, .int (v2 + 1)), (3, .int v3)]) rfl ?_
        refine x_iinc 3 (v3 + 1) [1, 2, 3, 0] dX0_heightOf_23 rfl rfl (by decide) (lv' := [(0, .ref (gB G + v0)), (1, .int v1), (2, .int (v2 + 1)), (3, .int (v3 + 1))]) rfl ?_
        refine x_goto 4 dX0_heightOf_26 rfl ?_
        exact ih v0 v1 (v2 + 1) (v3 + 1) μ hf
def fX0_heightOf (a : Nat) (u1 : Int32) (μ : Mu) : Option (Int32 × Mu) := grd (isO 0 a μ) (fX0_heightOf_4  FU a u1 0 0 μ)
set_option maxRecDepth 20000 in
theorem tX0_heightOf {G : Gm} {l : Launch} {r : Int32 × Mu} (a : Nat) (u1 : Int32) (μ : Mu) (hf : fX0_heightOf a u1 μ = some r) : Mt G l yX0_heightOf cX0_heightOf 4 (some .int) (0) 0 0 [.ref (gB G + a), .int u1] μ (some (.int r.1)) r.2 := by
  rw [fX0_heightOf] at hf
  have hf := grd_v hf
  refine Mt.of (by decide) (Nat.le_of_ble_eq_true rfl) (fun p e s m args below meth c => ?_)
  show LX0_heightOf G p l e s m args below meth c r 0 [(0, .ref (gB G + a)), (1, .int u1)] [] μ
  refine x_iconst 0 dX0_heightOf_0 (by decide) ?_
  refine x_istore_n [1, 2, 0] dX0_heightOf_1 (by decide) (lv' := [(0, .ref (gB G + a)), (1, .int u1), (2, .int 0)]) rfl ?_
  refine x_iconst 0 dX0_heightOf_2 (by decide) ?_
  refine x_istore_n [1, 2, 3, 0] dX0_heightOf_3 (by decide) (lv' := [(0, .ref (gB G + a)), (1, .int u1), (2, .int 0), (3, .int 0)]) rfl ?_
  exact tX0_heightOf_4  FU a u1 0 0 μ hf
abbrev LX0_topOf (G : Gm) (p : Program) (l : Launch) (e : Env) (s : State) (m : MethodId) (args : Array Value) (below : List Frame) (meth : Method) (c : Code) (r : Int32 × Mu) (pc : Nat) (lv : List (Nat × Value)) (st : List Value) (μ : Mu) : Prop := Lt G p l e { frames := 1, cells := 0, slots := 0, locals := 40 * (1) } s m args below meth c cX0_topOf 2 RX0 (some .int) "topOf" (MQ below (Qm G (some (.int r.1)) r.2 0) args s 0 0 (fA G)) 0 0 pc lv st μ
def fX0_topOf (a : Nat) (u1 : Int32) (μ : Mu) : Option (Int32 × Mu) := grd (isO 0 a μ) ((fX0_hasPlot a u1 μ).bind fun q1 =>
    (if q1.1 = 0 then
    some ((-4), q1.2)
    else
    (fX0_heightOf a u1 q1.2).bind fun q4 =>
    (fX0_hourAt a u1 (q4.1 - 1) q4.2).bind fun q6 =>
    some (q6.1, q6.2)))
set_option maxRecDepth 20000 in
theorem tX0_topOf {G : Gm} {l : Launch} {r : Int32 × Mu} (a : Nat) (u1 : Int32) (μ : Mu) (hf : fX0_topOf a u1 μ = some r) : Mt G l yX0_topOf cX0_topOf 2 (some .int) (1) 0 0 [.ref (gB G + a), .int u1] μ (some (.int r.1)) r.2 := by
  rw [fX0_topOf] at hf
  have hf := grd_v hf
  refine Mt.of (by decide) (Nat.le_of_ble_eq_true rfl) (fun p e s m args below meth c => ?_)
  show LX0_topOf G p l e s m args below meth c r 0 [(0, .ref (gB G + a)), (1, .int u1)] [] μ
  refine x_aload_n 0 dX0_topOf_0 rfl ?_
  refine x_iload_n 1 dX0_topOf_1 rfl ?_
  obtain ⟨q1, h2, hf⟩ := bnd hf
  refine x_callVi (rest := []) [.int u1] (tX0_hasPlot a u1 μ h2) wY_X0_hasPlot wI_X0_hasPlot wS_X0_hasPlot wL_X0_62 (grd_p h2) (by decide) rfl rfl (Nat.le_of_ble_eq_true rfl) ⟨Nat.le_of_ble_eq_true rfl, Nat.le_of_ble_eq_true rfl⟩ ⟨Nat.le_refl _, Nat.le_refl _⟩ dX0_topOf_2 ?_
  refine x_if_eq 23 dX0_topOf_5 rfl (fun c3 => ?_) (fun c3 => ?_)
  · rw [if_pos c3] at hf
    refine x_bipush (-4) dX0_topOf_23 (by decide) ?_
    exact y_iret rfl rfl rfl hf dX0_topOf_25
  · rw [if_neg c3] at hf
    refine x_aload_n 0 dX0_topOf_8 rfl ?_
    refine x_iload_n 1 dX0_topOf_9 rfl ?_
    refine x_aload_n 0 dX0_topOf_10 rfl ?_
    refine x_iload_n 1 dX0_topOf_11 rfl ?_
    obtain ⟨q4, h5, hf⟩ := bnd hf
    refine x_callVi (rest := [.int u1, .ref (gB G + a)]) [.int u1] (tX0_heightOf a u1 q1.2 h5) wY_X0_heightOf wI_X0_heightOf wS_X0_heightOf wL_X0_69 (grd_p h5) (by decide) rfl rfl (Nat.le_of_ble_eq_true rfl) ⟨Nat.le_of_ble_eq_true rfl, Nat.le_of_ble_eq_true rfl⟩ ⟨Nat.le_refl _, Nat.le_refl _⟩ dX0_topOf_12 ?_
    refine x_iconst 1 dX0_topOf_15 (by decide) ?_
    refine x_isub dX0_topOf_16 ?_
    obtain ⟨q6, h7, hf⟩ := bnd hf
    refine x_callVi (rest := []) [.int u1, .int (q4.1 - 1)] (tX0_hourAt a u1 (q4.1 - 1) q4.2 h7) wY_X0_hourAt wI_X0_hourAt wS_X0_hourAt wL_X0_73 (grd_p h7) (by decide) rfl rfl (Nat.le_of_ble_eq_true rfl) ⟨Nat.le_of_ble_eq_true rfl, Nat.le_of_ble_eq_true rfl⟩ ⟨Nat.le_refl _, Nat.le_refl _⟩ dX0_topOf_17 ?_
    refine x_goto 25 dX0_topOf_20 rfl ?_
    exact y_iret rfl rfl rfl hf dX0_topOf_25
abbrev LX0_hasRoomFor (G : Gm) (p : Program) (l : Launch) (e : Env) (s : State) (m : MethodId) (args : Array Value) (below : List Frame) (meth : Method) (c : Code) (r : Int32 × Mu) (pc : Nat) (lv : List (Nat × Value)) (st : List Value) (μ : Mu) : Prop := Lt G p l e { frames := 3, cells := 0, slots := 0, locals := 40 * (3) } s m args below meth c cX0_hasRoomFor 4 RX0 (some .boolean) "hasRoomFor" (MQ below (Qm G (some (.int r.1)) r.2 0) args s 0 0 (fA G)) 0 0 pc lv st μ
def fX0_hasRoomFor (a : Nat) (u1 : Int32) (u2 : Int32) (μ : Mu) : Option (Int32 × Mu) := grd (isO 0 a μ) ((fX0_hasHour a u1 μ).bind fun q1 =>
    (if q1.1 = 0 then
    some (0, q1.2)
    else
    (fX0_hasPlot a u2 q1.2).bind fun q4 =>
    (if q4.1 = 0 then
    some (0, q4.2)
    else
    (fX0_placeOf a u1 q4.2).bind fun q7 =>
    (if q7.1 = u2 then
    some (0, q7.2)
    else
    (fX0_topOf a u2 q7.2).bind fun q10 =>
    (fX0_kindOf a q10.1 q10.2).bind fun q12 =>
    (if q12.1 = 3 then
    some (0, q12.2)
    else
    (fX0_kindOf a u1 q12.2).bind fun q15 =>
    (fX0_needAbove q12.1 q15.1 q15.2).bind fun q17 =>
    (fX0_freeIn a u2 q17.2).bind fun q19 =>
    (if q19.1 < q17.1 then
    some (0, q19.2)
    else
    some (1, q19.2)))))))
set_option maxRecDepth 20000 in
theorem tX0_hasRoomFor {G : Gm} {l : Launch} {r : Int32 × Mu} (a : Nat) (u1 : Int32) (u2 : Int32) (μ : Mu) (hf : fX0_hasRoomFor a u1 u2 μ = some r) : Mt G l yX0_hasRoomFor cX0_hasRoomFor 4 (some .boolean) (3) 0 0 [.ref (gB G + a), .int u1, .int u2] μ (some (.int r.1)) r.2 := by
  rw [fX0_hasRoomFor] at hf
  have hf := grd_v hf
  refine Mt.of (by decide) (Nat.le_of_ble_eq_true rfl) (fun p e s m args below meth c => ?_)
  show LX0_hasRoomFor G p l e s m args below meth c r 0 [(0, .ref (gB G + a)), (1, .int u1), (2, .int u2)] [] μ
  refine x_aload_n 0 dX0_hasRoomFor_0 rfl ?_
  refine x_iload_n 1 dX0_hasRoomFor_1 rfl ?_
  obtain ⟨q1, h2, hf⟩ := bnd hf
  refine x_callVi (rest := []) [.int u1] (tX0_hasHour a u1 μ h2) wY_X0_hasHour wI_X0_hasHour wS_X0_hasHour wL_X0_66 (grd_p h2) (by decide) rfl rfl (Nat.le_of_ble_eq_true rfl) ⟨Nat.le_of_ble_eq_true rfl, Nat.le_of_ble_eq_true rfl⟩ ⟨Nat.le_refl _, Nat.le_refl _⟩ dX0_hasRoomFor_2 ?_
  refine x_if_eq 25 dX0_hasRoomFor_5 rfl (fun c3 => ?_) (fun c3 => ?_)
  · rw [if_pos c3] at hf
    refine x_iconst 0 dX0_hasRoomFor_25 (by decide) ?_
    exact y_zret rfl (by decide) rfl rfl hf dX0_hasRoomFor_26
  · rw [if_neg c3] at hf
    refine x_aload_n 0 dX0_hasRoomFor_8 rfl ?_
    refine x_iload_n 2 dX0_hasRoomFor_9 rfl ?_
    obtain ⟨q4, h5, hf⟩ := bnd hf
    refine x_callVi (rest := []) [.int u2] (tX0_hasPlot a u2 q1.2 h5) wY_X0_hasPlot wI_X0_hasPlot wS_X0_hasPlot wL_X0_62 (grd_p h5) (by decide) rfl rfl (Nat.le_of_ble_eq_true rfl) ⟨Nat.le_of_ble_eq_true rfl, Nat.le_of_ble_eq_true rfl⟩ ⟨Nat.le_refl _, Nat.le_refl _⟩ dX0_hasRoomFor_10 ?_
    refine x_if_eq 25 dX0_hasRoomFor_13 rfl (fun c6 => ?_) (fun c6 => ?_)
    · rw [if_pos c6] at hf
      refine x_iconst 0 dX0_hasRoomFor_25 (by decide) ?_
      exact y_zret rfl (by decide) rfl rfl hf dX0_hasRoomFor_26
    · rw [if_neg c6] at hf
      refine x_aload_n 0 dX0_hasRoomFor_16 rfl ?_
      refine x_iload_n 1 dX0_hasRoomFor_17 rfl ?_
      obtain ⟨q7, h8, hf⟩ := bnd hf
      refine x_callVi (rest := []) [.int u1] (tX0_placeOf a u1 q4.2 h8) wY_X0_placeOf wI_X0_placeOf wS_X0_placeOf wL_X0_86 (grd_p h8) (by decide) rfl rfl (Nat.le_of_ble_eq_true rfl) ⟨Nat.le_of_ble_eq_true rfl, Nat.le_of_ble_eq_true rfl⟩ ⟨Nat.le_refl _, Nat.le_refl _⟩ dX0_hasRoomFor_18 ?_
      refine x_iload_n 2 dX0_hasRoomFor_21 rfl ?_
      refine x_icmp_ne 27 dX0_hasRoomFor_22 rfl (fun c9 => ?_) (fun c9 => ?_)
      · rw [if_neg c9] at hf
        refine x_aload_n 0 dX0_hasRoomFor_27 rfl ?_
        refine x_aload_n 0 dX0_hasRoomFor_28 rfl ?_
        refine x_iload_n 2 dX0_hasRoomFor_29 rfl ?_
        obtain ⟨q10, h11, hf⟩ := bnd hf
        refine x_callVi (rest := [.ref (gB G + a)]) [.int u2] (tX0_topOf a u2 q7.2 h11) wY_X0_topOf wI_X0_topOf wS_X0_topOf wL_X0_89 (grd_p h11) (by decide) rfl rfl (Nat.le_of_ble_eq_true rfl) ⟨Nat.le_of_ble_eq_true rfl, Nat.le_of_ble_eq_true rfl⟩ ⟨Nat.le_refl _, Nat.le_refl _⟩ dX0_hasRoomFor_30 ?_
        obtain ⟨q12, h13, hf⟩ := bnd hf
        refine x_callVi (rest := []) [.int q10.1] (tX0_kindOf a q10.1 q10.2 h13) wY_X0_kindOf wI_X0_kindOf wS_X0_kindOf wL_X0_92 (grd_p h13) (by decide) rfl rfl (Nat.le_of_ble_eq_true rfl) ⟨Nat.le_of_ble_eq_true rfl, Nat.le_of_ble_eq_true rfl⟩ ⟨Nat.le_refl _, Nat.le_refl _⟩ dX0_hasRoomFor_33 ?_
        refine x_istore_n [1, 2, 3, 0] dX0_hasRoomFor_36 (by decide) (lv' := [(0, .ref (gB G + a)), (1, .int u1), (2, .int u2), (3, .int q12.1)]) rfl ?_
        refine x_iload_n 3 dX0_hasRoomFor_37 rfl ?_
        refine x_iconst 3 dX0_hasRoomFor_38 (by decide) ?_
        refine x_icmp_eq 63 dX0_hasRoomFor_39 rfl (fun c14 => ?_) (fun c14 => ?_)
        · rw [if_pos c14] at hf
          refine x_iconst 0 dX0_hasRoomFor_63 (by decide) ?_
          exact y_zret rfl (by decide) rfl rfl hf dX0_hasRoomFor_64
        · rw [if_neg c14] at hf
          refine x_iload_n 3 dX0_hasRoomFor_42 rfl ?_
          refine x_aload_n 0 dX0_hasRoomFor_43 rfl ?_
          refine x_iload_n 1 dX0_hasRoomFor_44 rfl ?_
          obtain ⟨q15, h16, hf⟩ := bnd hf
          refine x_callVi (rest := [.int q12.1]) [.int u1] (tX0_kindOf a u1 q12.2 h16) wY_X0_kindOf wI_X0_kindOf wS_X0_kindOf wL_X0_92 (grd_p h16) (by decide) rfl rfl (Nat.le_of_ble_eq_true rfl) ⟨Nat.le_of_ble_eq_true rfl, Nat.le_of_ble_eq_true rfl⟩ ⟨Nat.le_refl _, Nat.le_refl _⟩ dX0_hasRoomFor_45 ?_
          obtain ⟨q17, h18, hf⟩ := bnd hf
          refine x_callSi (rest := []) [.int q12.1, .int q15.1] (tX0_needAbove q12.1 q15.1 q15.2 h18) wY_X0_needAbove wT_X0_needAbove wL_X0_77 rfl (Nat.le_of_ble_eq_true rfl) ⟨Nat.le_of_ble_eq_true rfl, Nat.le_of_ble_eq_true rfl⟩ ⟨Nat.le_refl _, Nat.le_refl _⟩ dX0_hasRoomFor_48 ?_
          refine x_aload_n 0 dX0_hasRoomFor_51 rfl ?_
          refine x_iload_n 2 dX0_hasRoomFor_52 rfl ?_
          obtain ⟨q19, h20, hf⟩ := bnd hf
          refine x_callVi (rest := [.int q17.1]) [.int u2] (tX0_freeIn a u2 q17.2 h20) wY_X0_freeIn wI_X0_freeIn wS_X0_freeIn wL_X0_95 (grd_p h20) (by decide) rfl rfl (Nat.le_of_ble_eq_true rfl) ⟨Nat.le_of_ble_eq_true rfl, Nat.le_of_ble_eq_true rfl⟩ ⟨Nat.le_refl _, Nat.le_refl _⟩ dX0_hasRoomFor_53 ?_
          refine x_icmp_gt 63 dX0_hasRoomFor_56 rfl (fun c21 => ?_) (fun c21 => ?_)
          · rw [if_pos c21] at hf
            refine x_iconst 0 dX0_hasRoomFor_63 (by decide) ?_
            exact y_zret rfl (by decide) rfl rfl hf dX0_hasRoomFor_64
          · rw [if_neg c21] at hf
            refine x_iconst 1 dX0_hasRoomFor_59 (by decide) ?_
            refine x_goto 64 dX0_hasRoomFor_60 rfl ?_
            exact y_zret rfl (by decide) rfl rfl hf dX0_hasRoomFor_64
      · rw [if_pos c9] at hf
        refine x_iconst 0 dX0_hasRoomFor_25 (by decide) ?_
        exact y_zret rfl (by decide) rfl rfl hf dX0_hasRoomFor_26
abbrev LX0_setOnTop (G : Gm) (p : Program) (l : Launch) (e : Env) (s : State) (m : MethodId) (args : Array Value) (below : List Frame) (meth : Method) (c : Code) (r : Mu) (pc : Nat) (lv : List (Nat × Value)) (st : List Value) (μ : Mu) : Prop := Lt G p l e { frames := 1, cells := 0, slots := 0, locals := 40 * (1) } s m args below meth c cX0_setOnTop 3 RX0 none "setOnTop" (MQ below (Qm G none r 0) args s 0 0 (fA G)) 0 0 pc lv st μ
def fX0_setOnTop (a : Nat) (u1 : Int32) (u2 : Int32) (μ : Mu) : Option (Mu) := grd (isO 0 a μ) ((fX0_hasHour a u1 μ).bind fun q1 =>
    (if q1.1 = 0 then
    some q1.2
    else
    (fX0_hasPlot a u2 q1.2).bind fun q4 =>
    (if q4.1 = 0 then
    some q4.2
    else
    (gR 0 a 9 q4.2).bind fun x7 =>
    (fX0_heightOf a u2 q4.2).bind fun q9 =>
    (bI 8 x7 u1 q9.1 q9.2).bind fun m11 =>
    (gR 0 a 8 m11).bind fun x13 =>
    (bI 8 x13 u1 u2 m11).bind fun m15 =>
    some m15)))
set_option maxRecDepth 20000 in
theorem tX0_setOnTop {G : Gm} {l : Launch} {r : Mu} (a : Nat) (u1 : Int32) (u2 : Int32) (μ : Mu) (hf : fX0_setOnTop a u1 u2 μ = some r) : Mt G l yX0_setOnTop cX0_setOnTop 3 none (1) 0 0 [.ref (gB G + a), .int u1, .int u2] μ none r := by
  rw [fX0_setOnTop] at hf
  have hf := grd_v hf
  refine Mt.of (by decide) (Nat.le_of_ble_eq_true rfl) (fun p e s m args below meth c => ?_)
  show LX0_setOnTop G p l e s m args below meth c r 0 [(0, .ref (gB G + a)), (1, .int u1), (2, .int u2)] [] μ
  refine x_aload_n 0 dX0_setOnTop_0 rfl ?_
  refine x_iload_n 1 dX0_setOnTop_1 rfl ?_
  obtain ⟨q1, h2, hf⟩ := bnd hf
  refine x_callVi (rest := []) [.int u1] (tX0_hasHour a u1 μ h2) wY_X0_hasHour wI_X0_hasHour wS_X0_hasHour wL_X0_66 (grd_p h2) (by decide) rfl rfl (Nat.le_of_ble_eq_true rfl) ⟨Nat.le_of_ble_eq_true rfl, Nat.le_of_ble_eq_true rfl⟩ ⟨Nat.le_refl _, Nat.le_refl _⟩ dX0_setOnTop_2 ?_
  refine x_if_eq 34 dX0_setOnTop_5 rfl (fun c3 => ?_) (fun c3 => ?_)
  · rw [if_pos c3] at hf
    exact y_vret rfl rfl rfl hf dX0_setOnTop_34
  · rw [if_neg c3] at hf
    refine x_aload_n 0 dX0_setOnTop_8 rfl ?_
    refine x_iload_n 2 dX0_setOnTop_9 rfl ?_
    obtain ⟨q4, h5, hf⟩ := bnd hf
    refine x_callVi (rest := []) [.int u2] (tX0_hasPlot a u2 q1.2 h5) wY_X0_hasPlot wI_X0_hasPlot wS_X0_hasPlot wL_X0_62 (grd_p h5) (by decide) rfl rfl (Nat.le_of_ble_eq_true rfl) ⟨Nat.le_of_ble_eq_true rfl, Nat.le_of_ble_eq_true rfl⟩ ⟨Nat.le_refl _, Nat.le_refl _⟩ dX0_setOnTop_10 ?_
    refine x_if_eq 34 dX0_setOnTop_13 rfl (fun c6 => ?_) (fun c6 => ?_)
    · rw [if_pos c6] at hf
      exact y_vret rfl rfl rfl hf dX0_setOnTop_34
    · rw [if_neg c6] at hf
      refine x_aload_n 0 dX0_setOnTop_16 rfl ?_
      obtain ⟨x7, h8, hf⟩ := bnd hf
      refine x_getR wF_X0_24 (by decide) (by decide) rfl h8 dX0_setOnTop_17 ?_
      refine x_iload_n 1 dX0_setOnTop_20 rfl ?_
      refine x_aload_n 0 dX0_setOnTop_21 rfl ?_
      refine x_iload_n 2 dX0_setOnTop_22 rfl ?_
      obtain ⟨q9, h10, hf⟩ := bnd hf
      refine x_callVi (rest := [.int u1, .ref (gB G + x7)]) [.int u2] (tX0_heightOf a u2 q4.2 h10) wY_X0_heightOf wI_X0_heightOf wS_X0_heightOf wL_X0_69 (grd_p h10) (by decide) rfl rfl (Nat.le_of_ble_eq_true rfl) ⟨Nat.le_of_ble_eq_true rfl, Nat.le_of_ble_eq_true rfl⟩ ⟨Nat.le_refl _, Nat.le_refl _⟩ dX0_setOnTop_23 ?_
      obtain ⟨m11, h12, hf⟩ := bnd hf
      refine x_iast h12 dX0_setOnTop_26 ?_
      refine x_aload_n 0 dX0_setOnTop_27 rfl ?_
      obtain ⟨x13, h14, hf⟩ := bnd hf
      refine x_getR wF_X0_21 (by decide) (by decide) rfl h14 dX0_setOnTop_28 ?_
      refine x_iload_n 1 dX0_setOnTop_31 rfl ?_
      refine x_iload_n 2 dX0_setOnTop_32 rfl ?_
      obtain ⟨m15, h16, hf⟩ := bnd hf
      refine x_iast h16 dX0_setOnTop_33 ?_
      exact y_vret rfl rfl rfl hf dX0_setOnTop_34
abbrev LX0_addLyingHour (G : Gm) (p : Program) (l : Launch) (e : Env) (s : State) (m : MethodId) (args : Array Value) (below : List Frame) (meth : Method) (c : Code) (r : Int32 × Mu) (pc : Nat) (lv : List (Nat × Value)) (st : List Value) (μ : Mu) : Prop := Lt G p l e { frames := 4, cells := 0, slots := 0, locals := 40 * (4) } s m args below meth c cX0_addLyingHour 4 RX0 (some .boolean) "addLyingHour" (MQ below (Qm G (some (.int r.1)) r.2 0) args s 0 0 (fA G)) 0 0 pc lv st μ
def fX0_addLyingHour (a : Nat) (u1 : Int32) (u2 : Int32) (u3 : Int32) (μ : Mu) : Option (Int32 × Mu) := grd (isO 0 a μ) ((fX0_addHour a u1 u2 μ).bind fun q1 =>
    (if q1.1 = 0 then
    some (0, q1.2)
    else
    (gI 0 a 1 q1.2).bind fun x4 =>
    (fX0_hasRoomFor a (x4 - 1) u3 q1.2).bind fun q6 =>
    (if q6.1 = 0 then
    some (0, q6.2)
    else
    (gI 0 a 1 q6.2).bind fun x9 =>
    (fX0_setOnTop a (x9 - 1) u3 q6.2).bind fun q11 =>
    some (1, q11))))
set_option maxRecDepth 20000 in
theorem tX0_addLyingHour {G : Gm} {l : Launch} {r : Int32 × Mu} (a : Nat) (u1 : Int32) (u2 : Int32) (u3 : Int32) (μ : Mu) (hf : fX0_addLyingHour a u1 u2 u3 μ = some r) : Mt G l yX0_addLyingHour cX0_addLyingHour 4 (some .boolean) (4) 0 0 [.ref (gB G + a), .int u1, .int u2, .int u3] μ (some (.int r.1)) r.2 := by
  rw [fX0_addLyingHour] at hf
  have hf := grd_v hf
  refine Mt.of (by decide) (Nat.le_of_ble_eq_true rfl) (fun p e s m args below meth c => ?_)
  show LX0_addLyingHour G p l e s m args below meth c r 0 [(0, .ref (gB G + a)), (1, .int u1), (2, .int u2), (3, .int u3)] [] μ
  refine x_aload_n 0 dX0_addLyingHour_0 rfl ?_
  refine x_iload_n 1 dX0_addLyingHour_1 rfl ?_
  refine x_iload_n 2 dX0_addLyingHour_2 rfl ?_
  obtain ⟨q1, h2, hf⟩ := bnd hf
  refine x_callVi (rest := []) [.int u1, .int u2] (tX0_addHour a u1 u2 μ h2) wY_X0_addHour wI_X0_addHour wS_X0_addHour wL_X0_51 (grd_p h2) (by decide) rfl rfl (Nat.le_of_ble_eq_true rfl) ⟨Nat.le_of_ble_eq_true rfl, Nat.le_of_ble_eq_true rfl⟩ ⟨Nat.le_refl _, Nat.le_refl _⟩ dX0_addLyingHour_3 ?_
  refine x_if_eq 23 dX0_addLyingHour_6 rfl (fun c3 => ?_) (fun c3 => ?_)
  · rw [if_pos c3] at hf
    refine x_iconst 0 dX0_addLyingHour_23 (by decide) ?_
    exact y_zret rfl (by decide) rfl rfl hf dX0_addLyingHour_24
  · rw [if_neg c3] at hf
    refine x_aload_n 0 dX0_addLyingHour_9 rfl ?_
    refine x_aload_n 0 dX0_addLyingHour_10 rfl ?_
    obtain ⟨x4, h5, hf⟩ := bnd hf
    refine x_getI wF_X0_34 (by decide) (by decide) rfl h5 dX0_addLyingHour_11 ?_
    refine x_iconst 1 dX0_addLyingHour_14 (by decide) ?_
    refine x_isub dX0_addLyingHour_15 ?_
    refine x_iload_n 3 dX0_addLyingHour_16 rfl ?_
    obtain ⟨q6, h7, hf⟩ := bnd hf
    refine x_callVi (rest := []) [.int (x4 - 1), .int u3] (tX0_hasRoomFor a (x4 - 1) u3 q1.2 h7) wY_X0_hasRoomFor wI_X0_hasRoomFor wS_X0_hasRoomFor wL_X0_55 (grd_p h7) (by decide) rfl rfl (Nat.le_of_ble_eq_true rfl) ⟨Nat.le_of_ble_eq_true rfl, Nat.le_of_ble_eq_true rfl⟩ ⟨Nat.le_refl _, Nat.le_refl _⟩ dX0_addLyingHour_17 ?_
    refine x_if_ne 25 dX0_addLyingHour_20 rfl (fun c8 => ?_) (fun c8 => ?_)
    · rw [if_neg c8] at hf
      refine x_aload_n 0 dX0_addLyingHour_25 rfl ?_
      refine x_aload_n 0 dX0_addLyingHour_26 rfl ?_
      obtain ⟨x9, h10, hf⟩ := bnd hf
      refine x_getI wF_X0_34 (by decide) (by decide) rfl h10 dX0_addLyingHour_27 ?_
      refine x_iconst 1 dX0_addLyingHour_30 (by decide) ?_
      refine x_isub dX0_addLyingHour_31 ?_
      refine x_iload_n 3 dX0_addLyingHour_32 rfl ?_
      obtain ⟨q11, h12, hf⟩ := bnd hf
      refine x_callVv (rest := []) [.int (x9 - 1), .int u3] (tX0_setOnTop a (x9 - 1) u3 q6.2 h12) wY_X0_setOnTop wI_X0_setOnTop wS_X0_setOnTop wL_X0_58 (grd_p h12) (by decide) rfl rfl (Nat.le_of_ble_eq_true rfl) ⟨Nat.le_of_ble_eq_true rfl, Nat.le_of_ble_eq_true rfl⟩ ⟨Nat.le_refl _, Nat.le_refl _⟩ dX0_addLyingHour_33 ?_
      refine x_iconst 1 dX0_addLyingHour_36 (by decide) ?_
      exact y_zret rfl (by decide) rfl rfl hf dX0_addLyingHour_37
    · rw [if_pos c8] at hf
      refine x_iconst 0 dX0_addLyingHour_23 (by decide) ?_
      exact y_zret rfl (by decide) rfl rfl hf dX0_addLyingHour_24
abbrev LX0_addFrost (G : Gm) (p : Program) (l : Launch) (e : Env) (s : State) (m : MethodId) (args : Array Value) (below : List Frame) (meth : Method) (c : Code) (r : Int32 × Mu) (pc : Nat) (lv : List (Nat × Value)) (st : List Value) (μ : Mu) : Prop := Lt G p l e { frames := 1, cells := 0, slots := 0, locals := 40 * (1) } s m args below meth c cX0_addFrost 2 RX0 (some .boolean) "addFrost" (MQ below (Qm G (some (.int r.1)) r.2 0) args s 0 0 (fA G)) 0 0 pc lv st μ
def fX0_addFrost (a : Nat) (u1 : Int32) (μ : Mu) : Option (Int32 × Mu) := grd (isO 0 a μ) ((fX6_isWithin u1 0 39 μ).bind fun q1 =>
    (if q1.1 = 0 then
    some (0, q1.2)
    else
    (gL 0 a 4 q1.2).bind fun x4 =>
    (pL 0 a 4 (x4 ||| (1 <<< (u1.toInt64 &&& 63))) q1.2).bind fun m6 =>
    some (1, m6)))
set_option maxRecDepth 20000 in
theorem tX0_addFrost {G : Gm} {l : Launch} {r : Int32 × Mu} (a : Nat) (u1 : Int32) (μ : Mu) (hf : fX0_addFrost a u1 μ = some r) : Mt G l yX0_addFrost cX0_addFrost 2 (some .boolean) (1) 0 0 [.ref (gB G + a), .int u1] μ (some (.int r.1)) r.2 := by
  rw [fX0_addFrost] at hf
  have hf := grd_v hf
  refine Mt.of (by decide) (Nat.le_of_ble_eq_true rfl) (fun p e s m args below meth c => ?_)
  show LX0_addFrost G p l e s m args below meth c r 0 [(0, .ref (gB G + a)), (1, .int u1)] [] μ
  refine x_iload_n 1 dX0_addFrost_0 rfl ?_
  refine x_iconst 0 dX0_addFrost_1 (by decide) ?_
  refine x_bipush 39 dX0_addFrost_2 (by decide) ?_
  obtain ⟨q1, h2, hf⟩ := bnd hf
  refine x_callNi (rest := []) [.int u1, .int 0, .int 39] rfl (tX6_isWithin u1 0 39 μ h2) wY_X6_isWithin wT_X6_isWithin rfl (Nat.le_of_ble_eq_true rfl) ⟨Nat.le_of_ble_eq_true rfl, Nat.le_of_ble_eq_true rfl⟩ ⟨Nat.le_refl _, Nat.le_refl _⟩ dX0_addFrost_4 ?_
  refine x_if_ne 12 dX0_addFrost_7 rfl (fun c3 => ?_) (fun c3 => ?_)
  · rw [if_neg c3] at hf
    refine x_aload_n 0 dX0_addFrost_12 rfl ?_
    refine x_dup dX0_addFrost_13 rfl ?_
    obtain ⟨x4, h5, hf⟩ := bnd hf
    refine x_getL wF_X0_43 (by decide) (by decide) rfl h5 dX0_addFrost_14 ?_
    refine x_lconst 1 dX0_addFrost_17 (by decide) ?_
    refine x_iload_n 1 dX0_addFrost_18 rfl ?_
    refine x_lshl dX0_addFrost_19 ?_
    refine x_lor dX0_addFrost_20 ?_
    obtain ⟨m6, h7, hf⟩ := bnd hf
    refine x_putL wF_X0_43 (by decide) (by decide) rfl rfl h7 dX0_addFrost_21 ?_
    refine x_iconst 1 dX0_addFrost_24 (by decide) ?_
    exact y_zret rfl (by decide) rfl rfl hf dX0_addFrost_25
  · rw [if_pos c3] at hf
    refine x_iconst 0 dX0_addFrost_10 (by decide) ?_
    exact y_zret rfl (by decide) rfl rfl hf dX0_addFrost_11
abbrev LX0_worthOf (G : Gm) (p : Program) (l : Launch) (e : Env) (s : State) (m : MethodId) (args : Array Value) (below : List Frame) (meth : Method) (c : Code) (r : Int32 × Mu) (pc : Nat) (lv : List (Nat × Value)) (st : List Value) (μ : Mu) : Prop := Lt G p l e { frames := 1, cells := 0, slots := 0, locals := 40 * (1) } s m args below meth c cX0_worthOf 2 RX0 (some .int) "worthOf" (MQ below (Qm G (some (.int r.1)) r.2 0) args s 0 0 (fA G)) 0 0 pc lv st μ
def fX0_worthOf (a : Nat) (u1 : Int32) (μ : Mu) : Option (Int32 × Mu) := grd (isO 0 a μ) ((fX0_hasHour a u1 μ).bind fun q1 =>
    (if q1.1 = 0 then
    some (0, q1.2)
    else
    (gR 0 a 7 q1.2).bind fun x4 =>
    (aI 8 x4 u1 q1.2).bind fun x6 =>
    some (x6, q1.2)))
set_option maxRecDepth 20000 in
theorem tX0_worthOf {G : Gm} {l : Launch} {r : Int32 × Mu} (a : Nat) (u1 : Int32) (μ : Mu) (hf : fX0_worthOf a u1 μ = some r) : Mt G l yX0_worthOf cX0_worthOf 2 (some .int) (1) 0 0 [.ref (gB G + a), .int u1] μ (some (.int r.1)) r.2 := by
  rw [fX0_worthOf] at hf
  have hf := grd_v hf
  refine Mt.of (by decide) (Nat.le_of_ble_eq_true rfl) (fun p e s m args below meth c => ?_)
  show LX0_worthOf G p l e s m args below meth c r 0 [(0, .ref (gB G + a)), (1, .int u1)] [] μ
  refine x_aload_n 0 dX0_worthOf_0 rfl ?_
  refine x_iload_n 1 dX0_worthOf_1 rfl ?_
  obtain ⟨q1, h2, hf⟩ := bnd hf
  refine x_callVi (rest := []) [.int u1] (tX0_hasHour a u1 μ h2) wY_X0_hasHour wI_X0_hasHour wS_X0_hasHour wL_X0_66 (grd_p h2) (by decide) rfl rfl (Nat.le_of_ble_eq_true rfl) ⟨Nat.le_of_ble_eq_true rfl, Nat.le_of_ble_eq_true rfl⟩ ⟨Nat.le_refl _, Nat.le_refl _⟩ dX0_worthOf_2 ?_
  refine x_if_eq 17 dX0_worthOf_5 rfl (fun c3 => ?_) (fun c3 => ?_)
  · rw [if_pos c3] at hf
    refine x_iconst 0 dX0_worthOf_17 (by decide) ?_
    exact y_iret rfl rfl rfl hf dX0_worthOf_18
  · rw [if_neg c3] at hf
    refine x_aload_n 0 dX0_worthOf_8 rfl ?_
    obtain ⟨x4, h5, hf⟩ := bnd hf
    refine x_getR wF_X0_18 (by decide) (by decide) rfl h5 dX0_worthOf_9 ?_
    refine x_iload_n 1 dX0_worthOf_12 rfl ?_
    obtain ⟨x6, h7, hf⟩ := bnd hf
    refine x_iald h7 dX0_worthOf_13 ?_
    refine x_goto 18 dX0_worthOf_14 rfl ?_
    exact y_iret rfl rfl rfl hf dX0_worthOf_18
abbrev LX0_depthOf (G : Gm) (p : Program) (l : Launch) (e : Env) (s : State) (m : MethodId) (args : Array Value) (below : List Frame) (meth : Method) (c : Code) (r : Int32 × Mu) (pc : Nat) (lv : List (Nat × Value)) (st : List Value) (μ : Mu) : Prop := Lt G p l e { frames := 1, cells := 0, slots := 0, locals := 40 * (1) } s m args below meth c cX0_depthOf 2 RX0 (some .int) "depthOf" (MQ below (Qm G (some (.int r.1)) r.2 0) args s 0 0 (fA G)) 0 0 pc lv st μ
def fX0_depthOf (a : Nat) (u1 : Int32) (μ : Mu) : Option (Int32 × Mu) := grd (isO 0 a μ) ((fX0_hasHour a u1 μ).bind fun q1 =>
    (if q1.1 = 0 then
    some (0, q1.2)
    else
    (gR 0 a 9 q1.2).bind fun x4 =>
    (aI 8 x4 u1 q1.2).bind fun x6 =>
    some (x6, q1.2)))
set_option maxRecDepth 20000 in
theorem tX0_depthOf {G : Gm} {l : Launch} {r : Int32 × Mu} (a : Nat) (u1 : Int32) (μ : Mu) (hf : fX0_depthOf a u1 μ = some r) : Mt G l yX0_depthOf cX0_depthOf 2 (some .int) (1) 0 0 [.ref (gB G + a), .int u1] μ (some (.int r.1)) r.2 := by
  rw [fX0_depthOf] at hf
  have hf := grd_v hf
  refine Mt.of (by decide) (Nat.le_of_ble_eq_true rfl) (fun p e s m args below meth c => ?_)
  show LX0_depthOf G p l e s m args below meth c r 0 [(0, .ref (gB G + a)), (1, .int u1)] [] μ
  refine x_aload_n 0 dX0_depthOf_0 rfl ?_
  refine x_iload_n 1 dX0_depthOf_1 rfl ?_
  obtain ⟨q1, h2, hf⟩ := bnd hf
  refine x_callVi (rest := []) [.int u1] (tX0_hasHour a u1 μ h2) wY_X0_hasHour wI_X0_hasHour wS_X0_hasHour wL_X0_66 (grd_p h2) (by decide) rfl rfl (Nat.le_of_ble_eq_true rfl) ⟨Nat.le_of_ble_eq_true rfl, Nat.le_of_ble_eq_true rfl⟩ ⟨Nat.le_refl _, Nat.le_refl _⟩ dX0_depthOf_2 ?_
  refine x_if_eq 17 dX0_depthOf_5 rfl (fun c3 => ?_) (fun c3 => ?_)
  · rw [if_pos c3] at hf
    refine x_iconst 0 dX0_depthOf_17 (by decide) ?_
    exact y_iret rfl rfl rfl hf dX0_depthOf_18
  · rw [if_neg c3] at hf
    refine x_aload_n 0 dX0_depthOf_8 rfl ?_
    obtain ⟨x4, h5, hf⟩ := bnd hf
    refine x_getR wF_X0_24 (by decide) (by decide) rfl h5 dX0_depthOf_9 ?_
    refine x_iload_n 1 dX0_depthOf_12 rfl ?_
    obtain ⟨x6, h7, hf⟩ := bnd hf
    refine x_iald h7 dX0_depthOf_13 ?_
    refine x_goto 18 dX0_depthOf_14 rfl ?_
    exact y_iret rfl rfl rfl hf dX0_depthOf_18
abbrev LX0_lies (G : Gm) (p : Program) (l : Launch) (e : Env) (s : State) (m : MethodId) (args : Array Value) (below : List Frame) (meth : Method) (c : Code) (r : Int32 × Mu) (pc : Nat) (lv : List (Nat × Value)) (st : List Value) (μ : Mu) : Prop := Lt G p l e { frames := 1, cells := 0, slots := 0, locals := 40 * (1) } s m args below meth c cX0_lies 2 RX0 (some .boolean) "lies" (MQ below (Qm G (some (.int r.1)) r.2 0) args s 0 0 (fA G)) 0 0 pc lv st μ
def fX0_lies (a : Nat) (u1 : Int32) (μ : Mu) : Option (Int32 × Mu) := grd (isO 0 a μ) ((fX0_hasHour a u1 μ).bind fun q1 =>
    (if q1.1 = 0 then
    some (0, q1.2)
    else
    (gR 0 a 8 q1.2).bind fun x4 =>
    (aI 8 x4 u1 q1.2).bind fun x6 =>
    (if x6 = (-4) then
    some (0, q1.2)
    else
    some (1, q1.2))))
set_option maxRecDepth 20000 in
theorem tX0_lies {G : Gm} {l : Launch} {r : Int32 × Mu} (a : Nat) (u1 : Int32) (μ : Mu) (hf : fX0_lies a u1 μ = some r) : Mt G l yX0_lies cX0_lies 2 (some .boolean) (1) 0 0 [.ref (gB G + a), .int u1] μ (some (.int r.1)) r.2 := by
  rw [fX0_lies] at hf
  have hf := grd_v hf
  refine Mt.of (by decide) (Nat.le_of_ble_eq_true rfl) (fun p e s m args below meth c => ?_)
  show LX0_lies G p l e s m args below meth c r 0 [(0, .ref (gB G + a)), (1, .int u1)] [] μ
  refine x_aload_n 0 dX0_lies_0 rfl ?_
  refine x_iload_n 1 dX0_lies_1 rfl ?_
  obtain ⟨q1, h2, hf⟩ := bnd hf
  refine x_callVi (rest := []) [.int u1] (tX0_hasHour a u1 μ h2) wY_X0_hasHour wI_X0_hasHour wS_X0_hasHour wL_X0_66 (grd_p h2) (by decide) rfl rfl (Nat.le_of_ble_eq_true rfl) ⟨Nat.le_of_ble_eq_true rfl, Nat.le_of_ble_eq_true rfl⟩ ⟨Nat.le_refl _, Nat.le_refl _⟩ dX0_lies_2 ?_
  refine x_if_eq 23 dX0_lies_5 rfl (fun c3 => ?_) (fun c3 => ?_)
  · rw [if_pos c3] at hf
    refine x_iconst 0 dX0_lies_23 (by decide) ?_
    exact y_zret rfl (by decide) rfl rfl hf dX0_lies_24
  · rw [if_neg c3] at hf
    refine x_aload_n 0 dX0_lies_8 rfl ?_
    obtain ⟨x4, h5, hf⟩ := bnd hf
    refine x_getR wF_X0_21 (by decide) (by decide) rfl h5 dX0_lies_9 ?_
    refine x_iload_n 1 dX0_lies_12 rfl ?_
    obtain ⟨x6, h7, hf⟩ := bnd hf
    refine x_iald h7 dX0_lies_13 ?_
    refine x_bipush (-4) dX0_lies_14 (by decide) ?_
    refine x_icmp_eq 23 dX0_lies_16 rfl (fun c8 => ?_) (fun c8 => ?_)
    · rw [if_pos c8] at hf
      refine x_iconst 0 dX0_lies_23 (by decide) ?_
      exact y_zret rfl (by decide) rfl rfl hf dX0_lies_24
    · rw [if_neg c8] at hf
      refine x_iconst 1 dX0_lies_19 (by decide) ?_
      refine x_goto 24 dX0_lies_20 rfl ?_
      exact y_zret rfl (by decide) rfl rfl hf dX0_lies_24
abbrev LX0_isFrost (G : Gm) (p : Program) (l : Launch) (e : Env) (s : State) (m : MethodId) (args : Array Value) (below : List Frame) (meth : Method) (c : Code) (r : Int32 × Mu) (pc : Nat) (lv : List (Nat × Value)) (st : List Value) (μ : Mu) : Prop := Lt G p l e { frames := 0, cells := 0, slots := 0, locals := 40 * (0) } s m args below meth c cX0_isFrost 1 RX0 (some .boolean) "isFrost" (MQ below (Qm G (some (.int r.1)) r.2 0) args s 0 0 (fA G)) 0 0 pc lv st μ
def fX0_isFrost (a : Nat) (μ : Mu) : Option (Int32 × Mu) := grd (isO 0 a μ) ((gI 0 a 2 μ).bind fun x1 =>
    (if 40 ≤ x1 then
    some (0, μ)
    else
    (gL 0 a 4 μ).bind fun x4 =>
    (gI 0 a 2 μ).bind fun x6 =>
    (if (lg_cmp ((x4 >>> (x6.toInt64 &&& 63)) &&& 1) 1) = 0 then
    some (1, μ)
    else
    some (0, μ))))
set_option maxRecDepth 20000 in
theorem tX0_isFrost {G : Gm} {l : Launch} {r : Int32 × Mu} (a : Nat) (μ : Mu) (hf : fX0_isFrost a μ = some r) : Mt G l yX0_isFrost cX0_isFrost 1 (some .boolean) (0) 0 0 [.ref (gB G + a)] μ (some (.int r.1)) r.2 := by
  rw [fX0_isFrost] at hf
  have hf := grd_v hf
  refine Mt.of (by decide) (Nat.le_of_ble_eq_true rfl) (fun p e s m args below meth c => ?_)
  show LX0_isFrost G p l e s m args below meth c r 0 [(0, .ref (gB G + a))] [] μ
  refine x_aload_n 0 dX0_isFrost_0 rfl ?_
  obtain ⟨x1, h2, hf⟩ := bnd hf
  refine x_getI wF_X0_37 (by decide) (by decide) rfl h2 dX0_isFrost_1 ?_
  refine x_bipush 40 dX0_isFrost_4 (by decide) ?_
  refine x_icmp_ge 29 dX0_isFrost_6 rfl (fun c3 => ?_) (fun c3 => ?_)
  · rw [if_pos c3] at hf
    refine x_iconst 0 dX0_isFrost_29 (by decide) ?_
    exact y_zret rfl (by decide) rfl rfl hf dX0_isFrost_30
  · rw [if_neg c3] at hf
    refine x_aload_n 0 dX0_isFrost_9 rfl ?_
    obtain ⟨x4, h5, hf⟩ := bnd hf
    refine x_getL wF_X0_43 (by decide) (by decide) rfl h5 dX0_isFrost_10 ?_
    refine x_aload_n 0 dX0_isFrost_13 rfl ?_
    obtain ⟨x6, h7, hf⟩ := bnd hf
    refine x_getI wF_X0_37 (by decide) (by decide) rfl h7 dX0_isFrost_14 ?_
    refine x_lshr dX0_isFrost_17 ?_
    refine x_lconst 1 dX0_isFrost_18 (by decide) ?_
    refine x_land dX0_isFrost_19 ?_
    refine x_lconst 1 dX0_isFrost_20 (by decide) ?_
    refine x_lcmp dX0_isFrost_21 ?_
    refine x_if_ne 29 dX0_isFrost_22 rfl (fun c8 => ?_) (fun c8 => ?_)
    · rw [if_neg c8] at hf
      refine x_iconst 0 dX0_isFrost_29 (by decide) ?_
      exact y_zret rfl (by decide) rfl rfl hf dX0_isFrost_30
    · rw [if_pos c8] at hf
      refine x_iconst 1 dX0_isFrost_25 (by decide) ?_
      refine x_goto 30 dX0_isFrost_26 rfl ?_
      exact y_zret rfl (by decide) rfl rfl hf dX0_isFrost_30
abbrev LX0_canBePutIn (G : Gm) (p : Program) (l : Launch) (e : Env) (s : State) (m : MethodId) (args : Array Value) (below : List Frame) (meth : Method) (c : Code) (r : Int32 × Mu) (pc : Nat) (lv : List (Nat × Value)) (st : List Value) (μ : Mu) : Prop := Lt G p l e { frames := 4, cells := 0, slots := 0, locals := 40 * (4) } s m args below meth c cX0_canBePutIn 3 RX0 (some .boolean) "canBePutIn" (MQ below (Qm G (some (.int r.1)) r.2 0) args s 0 0 (fA G)) 0 0 pc lv st μ
def fX0_canBePutIn (a : Nat) (u1 : Int32) (u2 : Int32) (μ : Mu) : Option (Int32 × Mu) := grd (isO 0 a μ) ((fX0_lies a u1 μ).bind fun q1 =>
    (if q1.1 = 0 then
    (fX0_isFrost a  q1.2).bind fun q4 =>
    (if q4.1 = 0 then
    (fX0_hasRoomFor a u1 u2 q4.2).bind fun q7 =>
    (if q7.1 = 0 then
    some (0, q7.2)
    else
    some (1, q7.2))
    else
    some (0, q4.2))
    else
    some (0, q1.2)))
set_option maxRecDepth 20000 in
theorem tX0_canBePutIn {G : Gm} {l : Launch} {r : Int32 × Mu} (a : Nat) (u1 : Int32) (u2 : Int32) (μ : Mu) (hf : fX0_canBePutIn a u1 u2 μ = some r) : Mt G l yX0_canBePutIn cX0_canBePutIn 3 (some .boolean) (4) 0 0 [.ref (gB G + a), .int u1, .int u2] μ (some (.int r.1)) r.2 := by
  rw [fX0_canBePutIn] at hf
  have hf := grd_v hf
  refine Mt.of (by decide) (Nat.le_of_ble_eq_true rfl) (fun p e s m args below meth c => ?_)
  show LX0_canBePutIn G p l e s m args below meth c r 0 [(0, .ref (gB G + a)), (1, .int u1), (2, .int u2)] [] μ
  refine x_aload_n 0 dX0_canBePutIn_0 rfl ?_
  refine x_iload_n 1 dX0_canBePutIn_1 rfl ?_
  obtain ⟨q1, h2, hf⟩ := bnd hf
  refine x_callVi (rest := []) [.int u1] (tX0_lies a u1 μ h2) wY_X0_lies wI_X0_lies wS_X0_lies wL_X0_98 (grd_p h2) (by decide) rfl rfl (Nat.le_of_ble_eq_true rfl) ⟨Nat.le_of_ble_eq_true rfl, Nat.le_of_ble_eq_true rfl⟩ ⟨Nat.le_refl _, Nat.le_refl _⟩ dX0_canBePutIn_2 ?_
  refine x_if_ne 28 dX0_canBePutIn_5 rfl (fun c3 => ?_) (fun c3 => ?_)
  · rw [if_neg c3] at hf
    refine x_iconst 0 dX0_canBePutIn_28 (by decide) ?_
    exact y_zret rfl (by decide) rfl rfl hf dX0_canBePutIn_29
  · rw [if_pos c3] at hf
    refine x_aload_n 0 dX0_canBePutIn_8 rfl ?_
    obtain ⟨q4, h5, hf⟩ := bnd hf
    refine x_callVi (rest := []) [] (tX0_isFrost a  q1.2 h5) wY_X0_isFrost wI_X0_isFrost wS_X0_isFrost wL_X0_101 (grd_p h5) (by decide) rfl rfl (Nat.le_of_ble_eq_true rfl) ⟨Nat.le_of_ble_eq_true rfl, Nat.le_of_ble_eq_true rfl⟩ ⟨Nat.le_refl _, Nat.le_refl _⟩ dX0_canBePutIn_9 ?_
    refine x_if_ne 28 dX0_canBePutIn_12 rfl (fun c6 => ?_) (fun c6 => ?_)
    · rw [if_neg c6] at hf
      refine x_iconst 0 dX0_canBePutIn_28 (by decide) ?_
      exact y_zret rfl (by decide) rfl rfl hf dX0_canBePutIn_29
    · rw [if_pos c6] at hf
      refine x_aload_n 0 dX0_canBePutIn_15 rfl ?_
      refine x_iload_n 1 dX0_canBePutIn_16 rfl ?_
      refine x_iload_n 2 dX0_canBePutIn_17 rfl ?_
      obtain ⟨q7, h8, hf⟩ := bnd hf
      refine x_callVi (rest := []) [.int u1, .int u2] (tX0_hasRoomFor a u1 u2 q4.2 h8) wY_X0_hasRoomFor wI_X0_hasRoomFor wS_X0_hasRoomFor wL_X0_55 (grd_p h8) (by decide) rfl rfl (Nat.le_of_ble_eq_true rfl) ⟨Nat.le_of_ble_eq_true rfl, Nat.le_of_ble_eq_true rfl⟩ ⟨Nat.le_refl _, Nat.le_refl _⟩ dX0_canBePutIn_18 ?_
      refine x_if_eq 28 dX0_canBePutIn_21 rfl (fun c9 => ?_) (fun c9 => ?_)
      · rw [if_pos c9] at hf
        refine x_iconst 0 dX0_canBePutIn_28 (by decide) ?_
        exact y_zret rfl (by decide) rfl rfl hf dX0_canBePutIn_29
      · rw [if_neg c9] at hf
        refine x_iconst 1 dX0_canBePutIn_24 (by decide) ?_
        refine x_goto 29 dX0_canBePutIn_25 rfl ?_
        exact y_zret rfl (by decide) rfl rfl hf dX0_canBePutIn_29
abbrev LX0_setKind (G : Gm) (p : Program) (l : Launch) (e : Env) (s : State) (m : MethodId) (args : Array Value) (below : List Frame) (meth : Method) (c : Code) (r : Mu) (pc : Nat) (lv : List (Nat × Value)) (st : List Value) (μ : Mu) : Prop := Lt G p l e { frames := 1, cells := 0, slots := 0, locals := 40 * (1) } s m args below meth c cX0_setKind 3 RX0 none "setKind" (MQ below (Qm G none r 0) args s 0 0 (fA G)) 0 0 pc lv st μ
def fX0_setKind (a : Nat) (u1 : Int32) (u2 : Int32) (μ : Mu) : Option (Mu) := grd (isO 0 a μ) ((fX0_hasHour a u1 μ).bind fun q1 =>
    (if q1.1 = 0 then
    some q1.2
    else
    (gR 0 a 6 q1.2).bind fun x4 =>
    (bI 8 x4 u1 u2 q1.2).bind fun m6 =>
    some m6))
set_option maxRecDepth 20000 in
theorem tX0_setKind {G : Gm} {l : Launch} {r : Mu} (a : Nat) (u1 : Int32) (u2 : Int32) (μ : Mu) (hf : fX0_setKind a u1 u2 μ = some r) : Mt G l yX0_setKind cX0_setKind 3 none (1) 0 0 [.ref (gB G + a), .int u1, .int u2] μ none r := by
  rw [fX0_setKind] at hf
  have hf := grd_v hf
  refine Mt.of (by decide) (Nat.le_of_ble_eq_true rfl) (fun p e s m args below meth c => ?_)
  show LX0_setKind G p l e s m args below meth c r 0 [(0, .ref (gB G + a)), (1, .int u1), (2, .int u2)] [] μ
  refine x_aload_n 0 dX0_setKind_0 rfl ?_
  refine x_iload_n 1 dX0_setKind_1 rfl ?_
  obtain ⟨q1, h2, hf⟩ := bnd hf
  refine x_callVi (rest := []) [.int u1] (tX0_hasHour a u1 μ h2) wY_X0_hasHour wI_X0_hasHour wS_X0_hasHour wL_X0_66 (grd_p h2) (by decide) rfl rfl (Nat.le_of_ble_eq_true rfl) ⟨Nat.le_of_ble_eq_true rfl, Nat.le_of_ble_eq_true rfl⟩ ⟨Nat.le_refl _, Nat.le_refl _⟩ dX0_setKind_2 ?_
  refine x_if_eq 15 dX0_setKind_5 rfl (fun c3 => ?_) (fun c3 => ?_)
  · rw [if_pos c3] at hf
    exact y_vret rfl rfl rfl hf dX0_setKind_15
  · rw [if_neg c3] at hf
    refine x_aload_n 0 dX0_setKind_8 rfl ?_
    obtain ⟨x4, h5, hf⟩ := bnd hf
    refine x_getR wF_X0_15 (by decide) (by decide) rfl h5 dX0_setKind_9 ?_
    refine x_iload_n 1 dX0_setKind_12 rfl ?_
    refine x_iload_n 2 dX0_setKind_13 rfl ?_
    obtain ⟨m6, h7, hf⟩ := bnd hf
    refine x_iast h7 dX0_setKind_14 ?_
    exact y_vret rfl rfl rfl hf dX0_setKind_15
abbrev LX0_deepen (G : Gm) (p : Program) (l : Launch) (e : Env) (s : State) (m : MethodId) (args : Array Value) (below : List Frame) (meth : Method) (c : Code) (r : Mu) (pc : Nat) (lv : List (Nat × Value)) (st : List Value) (μ : Mu) : Prop := Lt G p l e { frames := 1, cells := 0, slots := 0, locals := 40 * (1) } s m args below meth c cX0_deepen 2 RX0 none "deepen" (MQ below (Qm G none r 0) args s 0 0 (fA G)) 0 0 pc lv st μ
def fX0_deepen (a : Nat) (u1 : Int32) (μ : Mu) : Option (Mu) := grd (isO 0 a μ) ((fX0_hasPlot a u1 μ).bind fun q1 =>
    (if q1.1 = 0 then
    some q1.2
    else
    (gR 0 a 5 q1.2).bind fun x4 =>
    (aI 8 x4 u1 q1.2).bind fun x6 =>
    (bI 8 x4 u1 (x6 + 1) q1.2).bind fun m8 =>
    some m8))
set_option maxRecDepth 20000 in
theorem tX0_deepen {G : Gm} {l : Launch} {r : Mu} (a : Nat) (u1 : Int32) (μ : Mu) (hf : fX0_deepen a u1 μ = some r) : Mt G l yX0_deepen cX0_deepen 2 none (1) 0 0 [.ref (gB G + a), .int u1] μ none r := by
  rw [fX0_deepen] at hf
  have hf := grd_v hf
  refine Mt.of (by decide) (Nat.le_of_ble_eq_true rfl) (fun p e s m args below meth c => ?_)
  show LX0_deepen G p l e s m args below meth c r 0 [(0, .ref (gB G + a)), (1, .int u1)] [] μ
  refine x_aload_n 0 dX0_deepen_0 rfl ?_
  refine x_iload_n 1 dX0_deepen_1 rfl ?_
  obtain ⟨q1, h2, hf⟩ := bnd hf
  refine x_callVi (rest := []) [.int u1] (tX0_hasPlot a u1 μ h2) wY_X0_hasPlot wI_X0_hasPlot wS_X0_hasPlot wL_X0_62 (grd_p h2) (by decide) rfl rfl (Nat.le_of_ble_eq_true rfl) ⟨Nat.le_of_ble_eq_true rfl, Nat.le_of_ble_eq_true rfl⟩ ⟨Nat.le_refl _, Nat.le_refl _⟩ dX0_deepen_2 ?_
  refine x_if_eq 18 dX0_deepen_5 rfl (fun c3 => ?_) (fun c3 => ?_)
  · rw [if_pos c3] at hf
    exact y_vret rfl rfl rfl hf dX0_deepen_18
  · rw [if_neg c3] at hf
    refine x_aload_n 0 dX0_deepen_8 rfl ?_
    obtain ⟨x4, h5, hf⟩ := bnd hf
    refine x_getR wF_X0_9 (by decide) (by decide) rfl h5 dX0_deepen_9 ?_
    refine x_iload_n 1 dX0_deepen_12 rfl ?_
    refine x_dup2 dX0_deepen_13 rfl rfl ?_
    obtain ⟨x6, h7, hf⟩ := bnd hf
    refine x_iald h7 dX0_deepen_14 ?_
    refine x_iconst 1 dX0_deepen_15 (by decide) ?_
    refine x_iadd dX0_deepen_16 ?_
    obtain ⟨m8, h9, hf⟩ := bnd hf
    refine x_iast h9 dX0_deepen_17 ?_
    exact y_vret rfl rfl rfl hf dX0_deepen_18
abbrev LX0_isAbove (G : Gm) (p : Program) (l : Launch) (e : Env) (s : State) (m : MethodId) (args : Array Value) (below : List Frame) (meth : Method) (c : Code) (r : Int32 × Mu) (pc : Nat) (lv : List (Nat × Value)) (st : List Value) (μ : Mu) : Prop := Lt G p l e { frames := 2, cells := 0, slots := 0, locals := 40 * (2) } s m args below meth c cX0_isAbove 3 RX0 (some .boolean) "isAbove" (MQ below (Qm G (some (.int r.1)) r.2 0) args s 0 0 (fA G)) 0 0 pc lv st μ
def fX0_isAbove (a : Nat) (u1 : Int32) (u2 : Int32) (μ : Mu) : Option (Int32 × Mu) := grd (isO 0 a μ) ((fX0_lies a u2 μ).bind fun q1 =>
    (if q1.1 = 0 then
    some (0, q1.2)
    else
    (fX0_placeOf a u1 q1.2).bind fun q4 =>
    (fX0_placeOf a u2 q4.2).bind fun q6 =>
    (if q4.1 = q6.1 then
    (fX0_depthOf a u1 q6.2).bind fun q9 =>
    (fX0_depthOf a u2 q9.2).bind fun q11 =>
    (if q9.1 ≤ q11.1 then
    some (0, q11.2)
    else
    some (1, q11.2))
    else
    some (0, q6.2))))
set_option maxRecDepth 20000 in
theorem tX0_isAbove {G : Gm} {l : Launch} {r : Int32 × Mu} (a : Nat) (u1 : Int32) (u2 : Int32) (μ : Mu) (hf : fX0_isAbove a u1 u2 μ = some r) : Mt G l yX0_isAbove cX0_isAbove 3 (some .boolean) (2) 0 0 [.ref (gB G + a), .int u1, .int u2] μ (some (.int r.1)) r.2 := by
  rw [fX0_isAbove] at hf
  have hf := grd_v hf
  refine Mt.of (by decide) (Nat.le_of_ble_eq_true rfl) (fun p e s m args below meth c => ?_)
  show LX0_isAbove G p l e s m args below meth c r 0 [(0, .ref (gB G + a)), (1, .int u1), (2, .int u2)] [] μ
  refine x_aload_n 0 dX0_isAbove_0 rfl ?_
  refine x_iload_n 2 dX0_isAbove_1 rfl ?_
  obtain ⟨q1, h2, hf⟩ := bnd hf
  refine x_callVi (rest := []) [.int u2] (tX0_lies a u2 μ h2) wY_X0_lies wI_X0_lies wS_X0_lies wL_X0_98 (grd_p h2) (by decide) rfl rfl (Nat.le_of_ble_eq_true rfl) ⟨Nat.le_of_ble_eq_true rfl, Nat.le_of_ble_eq_true rfl⟩ ⟨Nat.le_refl _, Nat.le_refl _⟩ dX0_isAbove_2 ?_
  refine x_if_eq 38 dX0_isAbove_5 rfl (fun c3 => ?_) (fun c3 => ?_)
  · rw [if_pos c3] at hf
    refine x_iconst 0 dX0_isAbove_38 (by decide) ?_
    exact y_zret rfl (by decide) rfl rfl hf dX0_isAbove_39
  · rw [if_neg c3] at hf
    refine x_aload_n 0 dX0_isAbove_8 rfl ?_
    refine x_iload_n 1 dX0_isAbove_9 rfl ?_
    obtain ⟨q4, h5, hf⟩ := bnd hf
    refine x_callVi (rest := []) [.int u1] (tX0_placeOf a u1 q1.2 h5) wY_X0_placeOf wI_X0_placeOf wS_X0_placeOf wL_X0_86 (grd_p h5) (by decide) rfl rfl (Nat.le_of_ble_eq_true rfl) ⟨Nat.le_of_ble_eq_true rfl, Nat.le_of_ble_eq_true rfl⟩ ⟨Nat.le_refl _, Nat.le_refl _⟩ dX0_isAbove_10 ?_
    refine x_aload_n 0 dX0_isAbove_13 rfl ?_
    refine x_iload_n 2 dX0_isAbove_14 rfl ?_
    obtain ⟨q6, h7, hf⟩ := bnd hf
    refine x_callVi (rest := [.int q4.1]) [.int u2] (tX0_placeOf a u2 q4.2 h7) wY_X0_placeOf wI_X0_placeOf wS_X0_placeOf wL_X0_86 (grd_p h7) (by decide) rfl rfl (Nat.le_of_ble_eq_true rfl) ⟨Nat.le_of_ble_eq_true rfl, Nat.le_of_ble_eq_true rfl⟩ ⟨Nat.le_refl _, Nat.le_refl _⟩ dX0_isAbove_15 ?_
    refine x_icmp_ne 38 dX0_isAbove_18 rfl (fun c8 => ?_) (fun c8 => ?_)
    · rw [if_neg c8] at hf
      refine x_iconst 0 dX0_isAbove_38 (by decide) ?_
      exact y_zret rfl (by decide) rfl rfl hf dX0_isAbove_39
    · rw [if_pos c8] at hf
      refine x_aload_n 0 dX0_isAbove_21 rfl ?_
      refine x_iload_n 1 dX0_isAbove_22 rfl ?_
      obtain ⟨q9, h10, hf⟩ := bnd hf
      refine x_callVi (rest := []) [.int u1] (tX0_depthOf a u1 q6.2 h10) wY_X0_depthOf wI_X0_depthOf wS_X0_depthOf wL_X0_105 (grd_p h10) (by decide) rfl rfl (Nat.le_of_ble_eq_true rfl) ⟨Nat.le_of_ble_eq_true rfl, Nat.le_of_ble_eq_true rfl⟩ ⟨Nat.le_refl _, Nat.le_refl _⟩ dX0_isAbove_23 ?_
      refine x_aload_n 0 dX0_isAbove_26 rfl ?_
      refine x_iload_n 2 dX0_isAbove_27 rfl ?_
      obtain ⟨q11, h12, hf⟩ := bnd hf
      refine x_callVi (rest := [.int q9.1]) [.int u2] (tX0_depthOf a u2 q9.2 h12) wY_X0_depthOf wI_X0_depthOf wS_X0_depthOf wL_X0_105 (grd_p h12) (by decide) rfl rfl (Nat.le_of_ble_eq_true rfl) ⟨Nat.le_of_ble_eq_true rfl, Nat.le_of_ble_eq_true rfl⟩ ⟨Nat.le_refl _, Nat.le_refl _⟩ dX0_isAbove_28 ?_
      refine x_icmp_le 38 dX0_isAbove_31 rfl (fun c13 => ?_) (fun c13 => ?_)
      · rw [if_pos c13] at hf
        refine x_iconst 0 dX0_isAbove_38 (by decide) ?_
        exact y_zret rfl (by decide) rfl rfl hf dX0_isAbove_39
      · rw [if_neg c13] at hf
        refine x_iconst 1 dX0_isAbove_34 (by decide) ?_
        refine x_goto 39 dX0_isAbove_35 rfl ?_
        exact y_zret rfl (by decide) rfl rfl hf dX0_isAbove_39
abbrev LX0_bitsAbove (G : Gm) (p : Program) (l : Launch) (e : Env) (s : State) (m : MethodId) (args : Array Value) (below : List Frame) (meth : Method) (c : Code) (r : Int32 × Mu) (pc : Nat) (lv : List (Nat × Value)) (st : List Value) (μ : Mu) : Prop := Lt G p l e { frames := 3, cells := 0, slots := 0, locals := 40 * (3) } s m args below meth c cX0_bitsAbove 4 RX0 (some .int) "bitsAbove" (MQ below (Qm G (some (.int r.1)) r.2 0) args s 0 0 (fA G)) 0 0 pc lv st μ
def fX0_bitsAbove_4 : Nat → Nat → Int32 → Int32 → Int32 → Mu → Option (Int32 × Mu)
  | 0, _, _, _, _, _ => none
  | n + 1, v0, v1, v2, v3, μ => (gI 0 v0 1 μ).bind fun x1 =>
    (if x1 ≤ v3 then
    some (v2, μ)
    else
    (fX0_isAbove v0 v3 v1 μ).bind fun q4 =>
    (if q4.1 = 0 then
    (fX0_bitsAbove_4 n) v0 v1 v2 (v3 + 1) q4.2
    else
    (fX0_bitsAbove_4 n) v0 v1 (v2 ||| (1 <<< (v3 &&& 31))) (v3 + 1) q4.2))
set_option maxRecDepth 20000 in
theorem tX0_bitsAbove_4 {G : Gm} {p : Program} {l : Launch} {e : Env} {s : State} {m : MethodId} {args : Array Value} {below : List Frame} {meth : Method} {c : Code} {r : Int32 × Mu} : ∀ (n : Nat) (v0 : Nat) (v1 : Int32) (v2 : Int32) (v3 : Int32) (μ : Mu), fX0_bitsAbove_4 n v0 v1 v2 v3 μ = some r → LX0_bitsAbove G p l e s m args below meth c r 4 [(0, .ref (gB G + v0)), (1, .int v1), (2, .int v2), (3, .int v3)] [] μ := by
  intro n
  induction n with
  | zero =>
    intro v0 v1 v2 v3 μ hf
    simp [fX0_bitsAbove_4] at hf
  | succ n ih =>
    intro v0 v1 v2 v3 μ hf
    rw [fX0_bitsAbove_4] at hf
    refine x_iload_n 3 dX0_bitsAbove_4 rfl ?_
    refine x_aload_n 0 dX0_bitsAbove_5 rfl ?_
    obtain ⟨x1, h2, hf⟩ := bnd hf
    refine x_getI wF_X0_34 (by decide) (by decide) rfl h2 dX0_bitsAbove_6 ?_
    refine x_icmp_ge 33 dX0_bitsAbove_9 rfl (fun c3 => ?_) (fun c3 => ?_)
    · rw [if_pos c3] at hf
      refine x_iload_n 2 dX0_bitsAbove_33 rfl ?_
      exact y_iret rfl rfl rfl hf dX0_bitsAbove_34
    · rw [if_neg c3] at hf
      refine x_aload_n 0 dX0_bitsAbove_12 rfl ?_
      refine x_iload_n 3 dX0_bitsAbove_13 rfl ?_
      refine x_iload_n 1 dX0_bitsAbove_14 rfl ?_
      obtain ⟨q4, h5, hf⟩ := bnd hf
      refine x_callVi (rest := []) [.int v3, .int v1] (tX0_isAbove v0 v3 v1 μ h5) wY_X0_isAbove wI_X0_isAbove wS_X0_isAbove wL_X0_108 (grd_p h5) (by decide) rfl rfl (Nat.le_of_ble_eq_true rfl) ⟨Nat.le_of_ble_eq_true rfl, Nat.le_of_ble_eq_true rfl⟩ ⟨Nat.le_refl _, Nat.le_refl _⟩ dX0_bitsAbove_15 ?_
      refine x_if_eq 27 dX0_bitsAbove_18 rfl (fun c6 => ?_) (fun c6 => ?_)
      · rw [if_pos c6] at hf
        refine x_iinc 3 (v3 + 1) [1, 2, 3, 0] dX0_bitsAbove_27 rfl rfl (by decide) (lv' := [(0, .ref (gB G + v0)), (1, .int v1), (2, .int v2), (3, .int (v3 + 1))]) rfl ?_
        refine x_goto 4 dX0_bitsAbove_30 rfl ?_
        exact ih v0 v1 v2 (v3 + 1) q4.2 hf
      · rw [if_neg c6] at hf
        refine x_iload_n 2 dX0_bitsAbove_21 rfl ?_
        refine x_iconst 1 dX0_bitsAbove_22 (by decide) ?_
        refine x_iload_n 3 dX0_bitsAbove_23 rfl ?_
        refine x_ishl dX0_bitsAbove_24 ?_
        refine x_ior dX0_bitsAbove_25 ?_
        refine x_istore_n [1, 2, 0, 3] dX0_bitsAbove_26 (by decide) (lv' := [(0, .ref (gB G + v0)), (1, .int v1), (2, .int (v2 ||| (1 <<< (v3 &&& 31)))), (3, .int v3)]) rfl ?_
        refine x_iinc 3 (v3 + 1) [1, 2, 3, 0] dX0_bitsAbove_27 rfl rfl (by decide) (lv' := [(0, .ref (gB G + v0)), (1, .int v1), (2, .int (v2 ||| (1 <<< (v3 &&& 31)))), (3, .int (v3 + 1))]) rfl ?_
        refine x_goto 4 dX0_bitsAbove_30 rfl ?_
        exact ih v0 v1 (v2 ||| (1 <<< (v3 &&& 31))) (v3 + 1) q4.2 hf
def fX0_bitsAbove (a : Nat) (u1 : Int32) (μ : Mu) : Option (Int32 × Mu) := grd (isO 0 a μ) (fX0_bitsAbove_4  FU a u1 0 0 μ)
set_option maxRecDepth 20000 in
theorem tX0_bitsAbove {G : Gm} {l : Launch} {r : Int32 × Mu} (a : Nat) (u1 : Int32) (μ : Mu) (hf : fX0_bitsAbove a u1 μ = some r) : Mt G l yX0_bitsAbove cX0_bitsAbove 4 (some .int) (3) 0 0 [.ref (gB G + a), .int u1] μ (some (.int r.1)) r.2 := by
  rw [fX0_bitsAbove] at hf
  have hf := grd_v hf
  refine Mt.of (by decide) (Nat.le_of_ble_eq_true rfl) (fun p e s m args below meth c => ?_)
  show LX0_bitsAbove G p l e s m args below meth c r 0 [(0, .ref (gB G + a)), (1, .int u1)] [] μ
  refine x_iconst 0 dX0_bitsAbove_0 (by decide) ?_
  refine x_istore_n [1, 2, 0] dX0_bitsAbove_1 (by decide) (lv' := [(0, .ref (gB G + a)), (1, .int u1), (2, .int 0)]) rfl ?_
  refine x_iconst 0 dX0_bitsAbove_2 (by decide) ?_
  refine x_istore_n [1, 2, 3, 0] dX0_bitsAbove_3 (by decide) (lv' := [(0, .ref (gB G + a)), (1, .int u1), (2, .int 0), (3, .int 0)]) rfl ?_
  exact tX0_bitsAbove_4  FU a u1 0 0 μ hf
abbrev LX0_takeUp (G : Gm) (p : Program) (l : Launch) (e : Env) (s : State) (m : MethodId) (args : Array Value) (below : List Frame) (meth : Method) (c : Code) (r : Int32 × Mu) (pc : Nat) (lv : List (Nat × Value)) (st : List Value) (μ : Mu) : Prop := Lt G p l e { frames := 3, cells := 0, slots := 0, locals := 40 * (3) } s m args below meth c cX0_takeUp 4 RX0 (some .int) "takeUp" (MQ below (Qm G (some (.int r.1)) r.2 0) args s 0 0 (fA G)) 0 0 pc lv st μ
def fX0_takeUp_14 : Nat → Nat → Int32 → Int32 → Int32 → Mu → Option (Int32 × Mu)
  | 0, _, _, _, _, _ => none
  | n + 1, v0, v1, v2, v3, μ => (if 7 ≤ v3 then
    (gR 0 v0 8 μ).bind fun x5 =>
    (bI 8 x5 v1 (-4) μ).bind fun m7 =>
    (gI 0 v0 3 m7).bind fun x9 =>
    (pI 0 v0 3 (x9 + v2) m7).bind fun m11 =>
    some (v2, m11)
    else
    (fX0_isAbove v0 v3 v1 μ).bind fun q13 =>
    (if q13.1 = 0 then
    (fX0_takeUp_14 n) v0 v1 v2 (v3 + 1) q13.2
    else
    (gR 0 v0 9 q13.2).bind fun x16 =>
    (aI 8 x16 v3 q13.2).bind fun x18 =>
    (bI 8 x16 v3 (x18 - 1) q13.2).bind fun m20 =>
    (fX0_takeUp_14 n) v0 v1 (v2 + 1) (v3 + 1) m20))
set_option maxRecDepth 20000 in
theorem tX0_takeUp_14 {G : Gm} {p : Program} {l : Launch} {e : Env} {s : State} {m : MethodId} {args : Array Value} {below : List Frame} {meth : Method} {c : Code} {r : Int32 × Mu} : ∀ (n : Nat) (v0 : Nat) (v1 : Int32) (v2 : Int32) (v3 : Int32) (μ : Mu), fX0_takeUp_14 n v0 v1 v2 v3 μ = some r → LX0_takeUp G p l e s m args below meth c r 14 [(0, .ref (gB G + v0)), (1, .int v1), (2, .int v2), (3, .int v3)] [] μ := by
  intro n
  induction n with
  | zero =>
    intro v0 v1 v2 v3 μ hf
    simp [fX0_takeUp_14] at hf
  | succ n ih =>
    intro v0 v1 v2 v3 μ hf
    rw [fX0_takeUp_14] at hf
    refine x_iload_n 3 dX0_takeUp_14 rfl ?_
    refine x_bipush 7 dX0_takeUp_15 (by decide) ?_
    refine x_icmp_ge 48 dX0_takeUp_17 rfl (fun c4 => ?_) (fun c4 => ?_)
    · rw [if_pos c4] at hf
      refine x_aload_n 0 dX0_takeUp_48 rfl ?_
      obtain ⟨x5, h6, hf⟩ := bnd hf
      refine x_getR wF_X0_21 (by decide) (by decide) rfl h6 dX0_takeUp_49 ?_
      refine x_iload_n 1 dX0_takeUp_52 rfl ?_
      refine x_bipush (-4) dX0_takeUp_53 (by decide) ?_
      obtain ⟨m7, h8, hf⟩ := bnd hf
      refine x_iast h8 dX0_takeUp_55 ?_
      refine x_aload_n 0 dX0_takeUp_56 rfl ?_
      refine x_dup dX0_takeUp_57 rfl ?_
      obtain ⟨x9, h10, hf⟩ := bnd hf
      refine x_getI wF_X0_40 (by decide) (by decide) rfl h10 dX0_takeUp_58 ?_
      refine x_iload_n 2 dX0_takeUp_61 rfl ?_
      refine x_iadd dX0_takeUp_62 ?_
      obtain ⟨m11, h12, hf⟩ := bnd hf
      refine x_putI wF_X0_40 (by decide) (by decide) rfl rfl h12 dX0_takeUp_63 ?_
      refine x_iload_n 2 dX0_takeUp_66 rfl ?_
      exact y_iret rfl rfl rfl hf dX0_takeUp_67
    · rw [if_neg c4] at hf
      refine x_aload_n 0 dX0_takeUp_20 rfl ?_
      refine x_iload_n 3 dX0_takeUp_21 rfl ?_
      refine x_iload_n 1 dX0_takeUp_22 rfl ?_
      obtain ⟨q13, h14, hf⟩ := bnd hf
      refine x_callVi (rest := []) [.int v3, .int v1] (tX0_isAbove v0 v3 v1 μ h14) wY_X0_isAbove wI_X0_isAbove wS_X0_isAbove wL_X0_108 (grd_p h14) (by decide) rfl rfl (Nat.le_of_ble_eq_true rfl) ⟨Nat.le_of_ble_eq_true rfl, Nat.le_of_ble_eq_true rfl⟩ ⟨Nat.le_refl _, Nat.le_refl _⟩ dX0_takeUp_23 ?_
      refine x_if_eq 42 dX0_takeUp_26 rfl (fun c15 => ?_) (fun c15 => ?_)
      · rw [if_pos c15] at hf
        refine x_iinc 3 (v3 + 1) [1, 2, 3, 0] dX0_takeUp_42 rfl rfl (by decide) (lv' := [(0, .ref (gB G + v0)), (1, .int v1), (2, .int v2), (3, .int (v3 + 1))]) rfl ?_
        refine x_goto 14 dX0_takeUp_45 rfl ?_
        exact ih v0 v1 v2 (v3 + 1) q13.2 hf
      · rw [if_neg c15] at hf
        refine x_aload_n 0 dX0_takeUp_29 rfl ?_
        obtain ⟨x16, h17, hf⟩ := bnd hf
        refine x_getR wF_X0_24 (by decide) (by decide) rfl h17 dX0_takeUp_30 ?_
        refine x_iload_n 3 dX0_takeUp_33 rfl ?_
        refine x_dup2 dX0_takeUp_34 rfl rfl ?_
        obtain ⟨x18, h19, hf⟩ := bnd hf
        refine x_iald h19 dX0_takeUp_35 ?_
        refine x_iconst 1 dX0_takeUp_36 (by decide) ?_
        refine x_isub dX0_takeUp_37 ?_
        obtain ⟨m20, h21, hf⟩ := bnd hf
        refine x_iast h21 dX0_takeUp_38 ?_
        refine x_iinc 2 (v2 + 1) [1, 2, 0, 3] dX0_takeUp_39 rfl rfl (by decide) (lv' := [(0, .ref (gB G + v0)), (1, .int v1), (2, .int (v2 + 1)), (3, .int v3)]) rfl ?_
        refine x_iinc 3 (v3 + 1) [1, 2, 3, 0] dX0_takeUp_42 rfl rfl (by decide) (lv' := [(0, .ref (gB G + v0)), (1, .int v1), (2, .int (v2 + 1)), (3, .int (v3 + 1))]) rfl ?_
        refine x_goto 14 dX0_takeUp_45 rfl ?_
        exact ih v0 v1 (v2 + 1) (v3 + 1) m20 hf
def fX0_takeUp (a : Nat) (u1 : Int32) (μ : Mu) : Option (Int32 × Mu) := grd (isO 0 a μ) ((fX0_lies a u1 μ).bind fun q1 =>
    (if q1.1 = 0 then
    some (0, q1.2)
    else
    fX0_takeUp_14  FU a u1 0 0 q1.2))
set_option maxRecDepth 20000 in
theorem tX0_takeUp {G : Gm} {l : Launch} {r : Int32 × Mu} (a : Nat) (u1 : Int32) (μ : Mu) (hf : fX0_takeUp a u1 μ = some r) : Mt G l yX0_takeUp cX0_takeUp 4 (some .int) (3) 0 0 [.ref (gB G + a), .int u1] μ (some (.int r.1)) r.2 := by
  rw [fX0_takeUp] at hf
  have hf := grd_v hf
  refine Mt.of (by decide) (Nat.le_of_ble_eq_true rfl) (fun p e s m args below meth c => ?_)
  show LX0_takeUp G p l e s m args below meth c r 0 [(0, .ref (gB G + a)), (1, .int u1)] [] μ
  refine x_aload_n 0 dX0_takeUp_0 rfl ?_
  refine x_iload_n 1 dX0_takeUp_1 rfl ?_
  obtain ⟨q1, h2, hf⟩ := bnd hf
  refine x_callVi (rest := []) [.int u1] (tX0_lies a u1 μ h2) wY_X0_lies wI_X0_lies wS_X0_lies wL_X0_98 (grd_p h2) (by decide) rfl rfl (Nat.le_of_ble_eq_true rfl) ⟨Nat.le_of_ble_eq_true rfl, Nat.le_of_ble_eq_true rfl⟩ ⟨Nat.le_refl _, Nat.le_refl _⟩ dX0_takeUp_2 ?_
  refine x_if_ne 10 dX0_takeUp_5 rfl (fun c3 => ?_) (fun c3 => ?_)
  · rw [if_neg c3] at hf
    refine x_iconst 0 dX0_takeUp_10 (by decide) ?_
    refine x_istore_n [1, 2, 0] dX0_takeUp_11 (by decide) (lv' := [(0, .ref (gB G + a)), (1, .int u1), (2, .int 0)]) rfl ?_
    refine x_iconst 0 dX0_takeUp_12 (by decide) ?_
    refine x_istore_n [1, 2, 3, 0] dX0_takeUp_13 (by decide) (lv' := [(0, .ref (gB G + a)), (1, .int u1), (2, .int 0), (3, .int 0)]) rfl ?_
    exact tX0_takeUp_14  FU a u1 0 0 q1.2 hf
  · rw [if_pos c3] at hf
    refine x_iconst 0 dX0_takeUp_8 (by decide) ?_
    exact y_iret rfl rfl rfl hf dX0_takeUp_9
abbrev LX0_isLoose (G : Gm) (p : Program) (l : Launch) (e : Env) (s : State) (m : MethodId) (args : Array Value) (below : List Frame) (meth : Method) (c : Code) (r : Int32 × Mu) (pc : Nat) (lv : List (Nat × Value)) (st : List Value) (μ : Mu) : Prop := Lt G p l e { frames := 0, cells := 0, slots := 0, locals := 40 * (0) } s m args below meth c cX0_isLoose 1 RX0 (some .boolean) "isLoose" (MQ below (Qm G (some (.int r.1)) r.2 0) args s 0 0 (fA G)) 0 0 pc lv st μ
def fX0_isLoose (u1 : Int32) (μ : Mu) : Option (Int32 × Mu) := (if u1 = 0 then
    some (1, μ)
    else
    (if u1 = 2 then
    some (1, μ)
    else
    some (0, μ)))
set_option maxRecDepth 20000 in
theorem tX0_isLoose {G : Gm} {l : Launch} {r : Int32 × Mu} (u1 : Int32) (μ : Mu) (hf : fX0_isLoose u1 μ = some r) : Mt G l yX0_isLoose cX0_isLoose 1 (some .boolean) (0) 0 0 [.int u1] μ (some (.int r.1)) r.2 := by
  rw [fX0_isLoose] at hf
  refine Mt.of (by decide) (Nat.le_of_ble_eq_true rfl) (fun p e s m args below meth c => ?_)
  show LX0_isLoose G p l e s m args below meth c r 0 [(0, .int u1)] [] μ
  refine x_iload_n 0 dX0_isLoose_0 rfl ?_
  refine x_if_eq 9 dX0_isLoose_1 rfl (fun c1 => ?_) (fun c1 => ?_)
  · rw [if_pos c1] at hf
    refine x_iconst 1 dX0_isLoose_9 (by decide) ?_
    refine x_goto 14 dX0_isLoose_10 rfl ?_
    exact y_zret rfl (by decide) rfl rfl hf dX0_isLoose_14
  · rw [if_neg c1] at hf
    refine x_iload_n 0 dX0_isLoose_4 rfl ?_
    refine x_iconst 2 dX0_isLoose_5 (by decide) ?_
    refine x_icmp_ne 13 dX0_isLoose_6 rfl (fun c2 => ?_) (fun c2 => ?_)
    · rw [if_neg c2] at hf
      refine x_iconst 0 dX0_isLoose_13 (by decide) ?_
      exact y_zret rfl (by decide) rfl rfl hf dX0_isLoose_14
    · rw [if_pos c2] at hf
      refine x_iconst 1 dX0_isLoose_9 (by decide) ?_
      refine x_goto 14 dX0_isLoose_10 rfl ?_
      exact y_zret rfl (by decide) rfl rfl hf dX0_isLoose_14
abbrev LX0_rabbitPlot (G : Gm) (p : Program) (l : Launch) (e : Env) (s : State) (m : MethodId) (args : Array Value) (below : List Frame) (meth : Method) (c : Code) (r : Int32 × Mu) (pc : Nat) (lv : List (Nat × Value)) (st : List Value) (μ : Mu) : Prop := Lt G p l e { frames := 0, cells := 0, slots := 0, locals := 40 * (0) } s m args below meth c cX0_rabbitPlot 2 RX0 (some .int) "rabbitPlot" (MQ below (Qm G (some (.int r.1)) r.2 0) args s 0 0 (fA G)) 0 0 pc lv st μ
def fX0_rabbitPlot (a : Nat) (u1 : Int32) (μ : Mu) : Option (Int32 × Mu) := grd (isO 0 a μ) ((gI 0 a 0 μ).bind fun x1 =>
    (if x1 ≤ 0 then
    some ((-4), μ)
    else
    (gI 0 a 0 μ).bind fun x4 =>
    (rmd u1 x4).bind fun x6 =>
    some (x6, μ)))
set_option maxRecDepth 20000 in
theorem tX0_rabbitPlot {G : Gm} {l : Launch} {r : Int32 × Mu} (a : Nat) (u1 : Int32) (μ : Mu) (hf : fX0_rabbitPlot a u1 μ = some r) : Mt G l yX0_rabbitPlot cX0_rabbitPlot 2 (some .int) (0) 0 0 [.ref (gB G + a), .int u1] μ (some (.int r.1)) r.2 := by
  rw [fX0_rabbitPlot] at hf
  have hf := grd_v hf
  refine Mt.of (by decide) (Nat.le_of_ble_eq_true rfl) (fun p e s m args below meth c => ?_)
  show LX0_rabbitPlot G p l e s m args below meth c r 0 [(0, .ref (gB G + a)), (1, .int u1)] [] μ
  refine x_aload_n 0 dX0_rabbitPlot_0 rfl ?_
  obtain ⟨x1, h2, hf⟩ := bnd hf
  refine x_getI wF_X0_30 (by decide) (by decide) rfl h2 dX0_rabbitPlot_1 ?_
  refine x_if_le 16 dX0_rabbitPlot_4 rfl (fun c3 => ?_) (fun c3 => ?_)
  · rw [if_pos c3] at hf
    refine x_bipush (-4) dX0_rabbitPlot_16 (by decide) ?_
    exact y_iret rfl rfl rfl hf dX0_rabbitPlot_18
  · rw [if_neg c3] at hf
    refine x_iload_n 1 dX0_rabbitPlot_7 rfl ?_
    refine x_aload_n 0 dX0_rabbitPlot_8 rfl ?_
    obtain ⟨x4, h5, hf⟩ := bnd hf
    refine x_getI wF_X0_30 (by decide) (by decide) rfl h5 dX0_rabbitPlot_9 ?_
    obtain ⟨x6, h7, hf⟩ := bnd hf
    refine x_irem h7 dX0_rabbitPlot_12 ?_
    refine x_goto 18 dX0_rabbitPlot_13 rfl ?_
    exact y_iret rfl rfl rfl hf dX0_rabbitPlot_18
abbrev LX0_passYears (G : Gm) (p : Program) (l : Launch) (e : Env) (s : State) (m : MethodId) (args : Array Value) (below : List Frame) (meth : Method) (c : Code) (r : Int32 × Mu) (pc : Nat) (lv : List (Nat × Value)) (st : List Value) (μ : Mu) : Prop := Lt G p l e { frames := 2, cells := 0, slots := 0, locals := 40 * (2) } s m args below meth c cX0_passYears 5 RX0 (some .int) "passYears" (MQ below (Qm G (some (.int r.1)) r.2 0) args s 0 0 (fA G)) 0 0 pc lv st μ
def fX0_passYears_56 (k4 : Nat → Int32 → Int32 → Int32 → Mu → Option (Int32 × Mu)) (v0 : Nat) (v1 : Int32) (v2 : Int32) (v3 : Int32) (μ : Mu) : Option (Int32 × Mu) := (gI 0 v0 2 μ).bind fun x11 =>
    (pI 0 v0 2 (x11 + 1) μ).bind fun m13 =>
    k4 v0 v1 v2 (v3 + 1) m13
set_option maxRecDepth 20000 in
theorem tX0_passYears_56 {G : Gm} {p : Program} {l : Launch} {e : Env} {s : State} {m : MethodId} {args : Array Value} {below : List Frame} {meth : Method} {c : Code} {r : Int32 × Mu} {k4 : Nat → Int32 → Int32 → Int32 → Mu → Option (Int32 × Mu)} (hk4 : ∀ (v0 : Nat) (v1 : Int32) (v2 : Int32) (v3 : Int32) (μ : Mu), k4 v0 v1 v2 v3 μ = some r → LX0_passYears G p l e s m args below meth c r 4 [(0, .ref (gB G + v0)), (1, .int v1), (2, .int v2), (3, .int v3)] [] μ) (v0 : Nat) (v1 : Int32) (v2 : Int32) (v3 : Int32) (μ : Mu) (hf : fX0_passYears_56 k4 v0 v1 v2 v3 μ = some r) : LX0_passYears G p l e s m args below meth c r 56 [(0, .ref (gB G + v0)), (1, .int v1), (2, .int v2), (3, .int v3)] [] μ := by
  rw [fX0_passYears_56] at hf
  refine x_aload_n 0 dX0_passYears_56 rfl ?_
  refine x_dup dX0_passYears_57 rfl ?_
  obtain ⟨x11, h12, hf⟩ := bnd hf
  refine x_getI wF_X0_37 (by decide) (by decide) rfl h12 dX0_passYears_58 ?_
  refine x_iconst 1 dX0_passYears_61 (by decide) ?_
  refine x_iadd dX0_passYears_62 ?_
  obtain ⟨m13, h14, hf⟩ := bnd hf
  refine x_putI wF_X0_37 (by decide) (by decide) rfl rfl h14 dX0_passYears_63 ?_
  refine x_iinc 3 (v3 + 1) [1, 2, 3, 0] dX0_passYears_66 rfl rfl (by decide) (lv' := [(0, .ref (gB G + v0)), (1, .int v1), (2, .int v2), (3, .int (v3 + 1))]) rfl ?_
  refine x_goto 4 dX0_passYears_69 rfl ?_
  exact hk4 v0 v1 v2 (v3 + 1) m13 hf
def fX0_passYears_4 : Nat → Nat → Int32 → Int32 → Int32 → Mu → Option (Int32 × Mu)
  | 0, _, _, _, _, _ => none
  | n + 1, v0, v1, v2, v3, μ => (if v1 ≤ v3 then
    some (v2, μ)
    else
    (gI 0 v0 2 μ).bind fun x2 =>
    (fX0_rabbitPlot v0 x2 μ).bind fun q4 =>
    (fX0_topOf v0 q4.1 q4.2).bind fun q6 =>
    (fX0_hasHour v0 q6.1 q6.2).bind fun q8 =>
    (if q8.1 = 0 then
    fX0_passYears_56 (fX0_passYears_4 n) v0 v1 v2 v3 q8.2
    else
    (fX0_kindOf v0 q6.1 q8.2).bind fun q15 =>
    (fX0_isLoose q15.1 q15.2).bind fun q17 =>
    (if q17.1 = 0 then
    fX0_passYears_56 (fX0_passYears_4 n) v0 v1 v2 v3 q17.2
    else
    (gR 0 v0 8 q17.2).bind fun x20 =>
    (bI 8 x20 q6.1 (-4) q17.2).bind fun m22 =>
    fX0_passYears_56 (fX0_passYears_4 n) v0 v1 (v2 + 1) v3 m22)))
set_option maxRecDepth 20000 in
theorem tX0_passYears_4 {G : Gm} {p : Program} {l : Launch} {e : Env} {s : State} {m : MethodId} {args : Array Value} {below : List Frame} {meth : Method} {c : Code} {r : Int32 × Mu} : ∀ (n : Nat) (v0 : Nat) (v1 : Int32) (v2 : Int32) (v3 : Int32) (μ : Mu), fX0_passYears_4 n v0 v1 v2 v3 μ = some r → LX0_passYears G p l e s m args below meth c r 4 [(0, .ref (gB G + v0)), (1, .int v1), (2, .int v2), (3, .int v3)] [] μ := by
  intro n
  induction n with
  | zero =>
    intro v0 v1 v2 v3 μ hf
    simp [fX0_passYears_4] at hf
  | succ n ih =>
    intro v0 v1 v2 v3 μ hf
    rw [fX0_passYears_4] at hf
    refine x_iload_n 3 dX0_passYears_4 rfl ?_
    refine x_iload_n 1 dX0_passYears_5 rfl ?_
    refine x_icmp_ge 72 dX0_passYears_6 rfl (fun c1 => ?_) (fun c1 => ?_)
    · rw [if_pos c1] at hf
      refine x_iload_n 2 dX0_passYears_72 rfl ?_
      exact y_iret rfl rfl rfl hf dX0_passYears_73
    · rw [if_neg c1] at hf
      refine x_aload_n 0 dX0_passYears_9 rfl ?_
      refine x_aload_n 0 dX0_passYears_10 rfl ?_
      refine x_aload_n 0 dX0_passYears_11 rfl ?_
      obtain ⟨x2, h3, hf⟩ := bnd hf
      refine x_getI wF_X0_37 (by decide) (by decide) rfl h3 dX0_passYears_12 ?_
      obtain ⟨q4, h5, hf⟩ := bnd hf
      refine x_callVi (rest := [.ref (gB G + v0)]) [.int x2] (tX0_rabbitPlot v0 x2 μ h5) wY_X0_rabbitPlot wI_X0_rabbitPlot wS_X0_rabbitPlot wL_X0_111 (grd_p h5) (by decide) rfl rfl (Nat.le_of_ble_eq_true rfl) ⟨Nat.le_of_ble_eq_true rfl, Nat.le_of_ble_eq_true rfl⟩ ⟨Nat.le_refl _, Nat.le_refl _⟩ dX0_passYears_15 ?_
      obtain ⟨q6, h7, hf⟩ := bnd hf
      refine x_callVi (rest := []) [.int q4.1] (tX0_topOf v0 q4.1 q4.2 h7) wY_X0_topOf wI_X0_topOf wS_X0_topOf wL_X0_89 (grd_p h7) (by decide) rfl rfl (Nat.le_of_ble_eq_true rfl) ⟨Nat.le_of_ble_eq_true rfl, Nat.le_of_ble_eq_true rfl⟩ ⟨Nat.le_refl _, Nat.le_refl _⟩ dX0_passYears_18 ?_
      refine x_istore [1, 2, 3, 4, 0] dX0_passYears_21 (by decide) (lv' := [(0, .ref (gB G + v0)), (1, .int v1), (2, .int v2), (3, .int v3), (4, .int q6.1)]) rfl ?_
      refine x_aload_n 0 dX0_passYears_23 rfl ?_
      refine x_iload 4 dX0_passYears_24 rfl ?_
      obtain ⟨q8, h9, hf⟩ := bnd hf
      refine x_callVi (rest := []) [.int q6.1] (tX0_hasHour v0 q6.1 q6.2 h9) wY_X0_hasHour wI_X0_hasHour wS_X0_hasHour wL_X0_66 (grd_p h9) (by decide) rfl rfl (Nat.le_of_ble_eq_true rfl) ⟨Nat.le_of_ble_eq_true rfl, Nat.le_of_ble_eq_true rfl⟩ ⟨Nat.le_refl _, Nat.le_refl _⟩ dX0_passYears_26 ?_
      refine x_if_eq 56 dX0_passYears_29 rfl (fun c10 => ?_) (fun c10 => ?_)
      · rw [if_pos c10] at hf
        refine x_sub [0, 1, 2, 3] (lv' := [(0, .ref (gB G + v0)), (1, .int v1), (2, .int v2), (3, .int v3)]) rfl ?_
        exact tX0_passYears_56 ih v0 v1 v2 v3 q8.2 hf
      · rw [if_neg c10] at hf
        refine x_aload_n 0 dX0_passYears_32 rfl ?_
        refine x_iload 4 dX0_passYears_33 rfl ?_
        obtain ⟨q15, h16, hf⟩ := bnd hf
        refine x_callVi (rest := []) [.int q6.1] (tX0_kindOf v0 q6.1 q8.2 h16) wY_X0_kindOf wI_X0_kindOf wS_X0_kindOf wL_X0_92 (grd_p h16) (by decide) rfl rfl (Nat.le_of_ble_eq_true rfl) ⟨Nat.le_of_ble_eq_true rfl, Nat.le_of_ble_eq_true rfl⟩ ⟨Nat.le_refl _, Nat.le_refl _⟩ dX0_passYears_35 ?_
        obtain ⟨q17, h18, hf⟩ := bnd hf
        refine x_callSi (rest := []) [.int q15.1] (tX0_isLoose q15.1 q15.2 h18) wY_X0_isLoose wT_X0_isLoose wL_X0_114 rfl (Nat.le_of_ble_eq_true rfl) ⟨Nat.le_of_ble_eq_true rfl, Nat.le_of_ble_eq_true rfl⟩ ⟨Nat.le_refl _, Nat.le_refl _⟩ dX0_passYears_38 ?_
        refine x_if_eq 56 dX0_passYears_41 rfl (fun c19 => ?_) (fun c19 => ?_)
        · rw [if_pos c19] at hf
          refine x_sub [0, 1, 2, 3] (lv' := [(0, .ref (gB G + v0)), (1, .int v1), (2, .int v2), (3, .int v3)]) rfl ?_
          exact tX0_passYears_56 ih v0 v1 v2 v3 q17.2 hf
        · rw [if_neg c19] at hf
          refine x_aload_n 0 dX0_passYears_44 rfl ?_
          obtain ⟨x20, h21, hf⟩ := bnd hf
          refine x_getR wF_X0_21 (by decide) (by decide) rfl h21 dX0_passYears_45 ?_
          refine x_iload 4 dX0_passYears_48 rfl ?_
          refine x_bipush (-4) dX0_passYears_50 (by decide) ?_
          obtain ⟨m22, h23, hf⟩ := bnd hf
          refine x_iast h23 dX0_passYears_52 ?_
          refine x_iinc 2 (v2 + 1) [1, 2, 0, 3, 4] dX0_passYears_53 rfl rfl (by decide) (lv' := [(0, .ref (gB G + v0)), (1, .int v1), (2, .int (v2 + 1)), (3, .int v3), (4, .int q6.1)]) rfl ?_
          refine x_sub [0, 1, 2, 3] (lv' := [(0, .ref (gB G + v0)), (1, .int v1), (2, .int (v2 + 1)), (3, .int v3)]) rfl ?_
          exact tX0_passYears_56 ih v0 v1 (v2 + 1) v3 m22 hf
def fX0_passYears (a : Nat) (u1 : Int32) (μ : Mu) : Option (Int32 × Mu) := grd (isO 0 a μ) (fX0_passYears_4  FU a u1 0 0 μ)
set_option maxRecDepth 20000 in
theorem tX0_passYears {G : Gm} {l : Launch} {r : Int32 × Mu} (a : Nat) (u1 : Int32) (μ : Mu) (hf : fX0_passYears a u1 μ = some r) : Mt G l yX0_passYears cX0_passYears 5 (some .int) (2) 0 0 [.ref (gB G + a), .int u1] μ (some (.int r.1)) r.2 := by
  rw [fX0_passYears] at hf
  have hf := grd_v hf
  refine Mt.of (by decide) (Nat.le_of_ble_eq_true rfl) (fun p e s m args below meth c => ?_)
  show LX0_passYears G p l e s m args below meth c r 0 [(0, .ref (gB G + a)), (1, .int u1)] [] μ
  refine x_iconst 0 dX0_passYears_0 (by decide) ?_
  refine x_istore_n [1, 2, 0] dX0_passYears_1 (by decide) (lv' := [(0, .ref (gB G + a)), (1, .int u1), (2, .int 0)]) rfl ?_
  refine x_iconst 0 dX0_passYears_2 (by decide) ?_
  refine x_istore_n [1, 2, 3, 0] dX0_passYears_3 (by decide) (lv' := [(0, .ref (gB G + a)), (1, .int u1), (2, .int 0), (3, .int 0)]) rfl ?_
  exact tX0_passYears_4  FU a u1 0 0 μ hf
abbrev LX0_visitsTo (G : Gm) (p : Program) (l : Launch) (e : Env) (s : State) (m : MethodId) (args : Array Value) (below : List Frame) (meth : Method) (c : Code) (r : Int32 × Mu) (pc : Nat) (lv : List (Nat × Value)) (st : List Value) (μ : Mu) : Prop := Lt G p l e { frames := 1, cells := 0, slots := 0, locals := 40 * (1) } s m args below meth c cX0_visitsTo 5 RX0 (some .int) "visitsTo" (MQ below (Qm G (some (.int r.1)) r.2 0) args s 0 0 (fA G)) 0 0 pc lv st μ
def fX0_visitsTo_5 : Nat → Nat → Int32 → Int32 → Int32 → Int32 → Mu → Option (Int32 × Mu)
  | 0, _, _, _, _, _, _ => none
  | n + 1, v0, v1, v2, v3, v4, μ => (if v2 ≤ v4 then
    some (v3, μ)
    else
    (gI 0 v0 2 μ).bind fun x2 =>
    (fX0_rabbitPlot v0 (x2 + v4) μ).bind fun q4 =>
    (if q4.1 = v1 then
    (fX0_visitsTo_5 n) v0 v1 v2 (v3 + 1) (v4 + 1) q4.2
    else
    (fX0_visitsTo_5 n) v0 v1 v2 v3 (v4 + 1) q4.2))
set_option maxRecDepth 20000 in
theorem tX0_visitsTo_5 {G : Gm} {p : Program} {l : Launch} {e : Env} {s : State} {m : MethodId} {args : Array Value} {below : List Frame} {meth : Method} {c : Code} {r : Int32 × Mu} : ∀ (n : Nat) (v0 : Nat) (v1 : Int32) (v2 : Int32) (v3 : Int32) (v4 : Int32) (μ : Mu), fX0_visitsTo_5 n v0 v1 v2 v3 v4 μ = some r → LX0_visitsTo G p l e s m args below meth c r 5 [(0, .ref (gB G + v0)), (1, .int v1), (2, .int v2), (3, .int v3), (4, .int v4)] [] μ := by
  intro n
  induction n with
  | zero =>
    intro v0 v1 v2 v3 v4 μ hf
    simp [fX0_visitsTo_5] at hf
  | succ n ih =>
    intro v0 v1 v2 v3 v4 μ hf
    rw [fX0_visitsTo_5] at hf
    refine x_iload 4 dX0_visitsTo_5 rfl ?_
    refine x_iload_n 2 dX0_visitsTo_7 rfl ?_
    refine x_icmp_ge 35 dX0_visitsTo_8 rfl (fun c1 => ?_) (fun c1 => ?_)
    · rw [if_pos c1] at hf
      refine x_iload_n 3 dX0_visitsTo_35 rfl ?_
      exact y_iret rfl rfl rfl hf dX0_visitsTo_36
    · rw [if_neg c1] at hf
      refine x_aload_n 0 dX0_visitsTo_11 rfl ?_
      refine x_aload_n 0 dX0_visitsTo_12 rfl ?_
      obtain ⟨x2, h3, hf⟩ := bnd hf
      refine x_getI wF_X0_37 (by decide) (by decide) rfl h3 dX0_visitsTo_13 ?_
      refine x_iload 4 dX0_visitsTo_16 rfl ?_
      refine x_iadd dX0_visitsTo_18 ?_
      obtain ⟨q4, h5, hf⟩ := bnd hf
      refine x_callVi (rest := []) [.int (x2 + v4)] (tX0_rabbitPlot v0 (x2 + v4) μ h5) wY_X0_rabbitPlot wI_X0_rabbitPlot wS_X0_rabbitPlot wL_X0_111 (grd_p h5) (by decide) rfl rfl (Nat.le_of_ble_eq_true rfl) ⟨Nat.le_of_ble_eq_true rfl, Nat.le_of_ble_eq_true rfl⟩ ⟨Nat.le_refl _, Nat.le_refl _⟩ dX0_visitsTo_19 ?_
      refine x_iload_n 1 dX0_visitsTo_22 rfl ?_
      refine x_icmp_ne 29 dX0_visitsTo_23 rfl (fun c6 => ?_) (fun c6 => ?_)
      · rw [if_neg c6] at hf
        refine x_iinc 4 (v4 + 1) [1, 2, 3, 4, 0] dX0_visitsTo_29 rfl rfl (by decide) (lv' := [(0, .ref (gB G + v0)), (1, .int v1), (2, .int v2), (3, .int v3), (4, .int (v4 + 1))]) rfl ?_
        refine x_goto 5 dX0_visitsTo_32 rfl ?_
        exact ih v0 v1 v2 v3 (v4 + 1) q4.2 hf
      · rw [if_pos c6] at hf
        refine x_iinc 3 (v3 + 1) [1, 2, 3, 0, 4] dX0_visitsTo_26 rfl rfl (by decide) (lv' := [(0, .ref (gB G + v0)), (1, .int v1), (2, .int v2), (3, .int (v3 + 1)), (4, .int v4)]) rfl ?_
        refine x_iinc 4 (v4 + 1) [1, 2, 3, 4, 0] dX0_visitsTo_29 rfl rfl (by decide) (lv' := [(0, .ref (gB G + v0)), (1, .int v1), (2, .int v2), (3, .int (v3 + 1)), (4, .int (v4 + 1))]) rfl ?_
        refine x_goto 5 dX0_visitsTo_32 rfl ?_
        exact ih v0 v1 v2 (v3 + 1) (v4 + 1) q4.2 hf
def fX0_visitsTo (a : Nat) (u1 : Int32) (u2 : Int32) (μ : Mu) : Option (Int32 × Mu) := grd (isO 0 a μ) (fX0_visitsTo_5  FU a u1 u2 0 0 μ)
set_option maxRecDepth 20000 in
theorem tX0_visitsTo {G : Gm} {l : Launch} {r : Int32 × Mu} (a : Nat) (u1 : Int32) (u2 : Int32) (μ : Mu) (hf : fX0_visitsTo a u1 u2 μ = some r) : Mt G l yX0_visitsTo cX0_visitsTo 5 (some .int) (1) 0 0 [.ref (gB G + a), .int u1, .int u2] μ (some (.int r.1)) r.2 := by
  rw [fX0_visitsTo] at hf
  have hf := grd_v hf
  refine Mt.of (by decide) (Nat.le_of_ble_eq_true rfl) (fun p e s m args below meth c => ?_)
  show LX0_visitsTo G p l e s m args below meth c r 0 [(0, .ref (gB G + a)), (1, .int u1), (2, .int u2)] [] μ
  refine x_iconst 0 dX0_visitsTo_0 (by decide) ?_
  refine x_istore_n [1, 2, 3, 0] dX0_visitsTo_1 (by decide) (lv' := [(0, .ref (gB G + a)), (1, .int u1), (2, .int u2), (3, .int 0)]) rfl ?_
  refine x_iconst 0 dX0_visitsTo_2 (by decide) ?_
  refine x_istore [1, 2, 3, 4, 0] dX0_visitsTo_3 (by decide) (lv' := [(0, .ref (gB G + a)), (1, .int u1), (2, .int u2), (3, .int 0), (4, .int 0)]) rfl ?_
  exact tX0_visitsTo_5  FU a u1 u2 0 0 μ hf
abbrev LX0_throwsBorneBy (G : Gm) (p : Program) (l : Launch) (e : Env) (s : State) (m : MethodId) (args : Array Value) (below : List Frame) (meth : Method) (c : Code) (r : Int32 × Mu) (pc : Nat) (lv : List (Nat × Value)) (st : List Value) (μ : Mu) : Prop := Lt G p l e { frames := 3, cells := 0, slots := 0, locals := 40 * (3) } s m args below meth c cX0_throwsBorneBy 4 RX0 (some .int) "throwsBorneBy" (MQ below (Qm G (some (.int r.1)) r.2 0) args s 0 0 (fA G)) 0 0 pc lv st μ
def fX0_throwsBorneBy_26 (k4 : Nat → Int32 → Int32 → Int32 → Mu → Option (Int32 × Mu)) (v0 : Nat) (v1 : Int32) (v2 : Int32) (v3 : Int32) (μ : Mu) : Option (Int32 × Mu) := (fX0_kindOf v0 v3 μ).bind fun q5 =>
    (fX0_isLoose q5.1 q5.2).bind fun q7 =>
    (if q7.1 = 0 then
    some (8, q7.2)
    else
    k4 v0 v1 (v2 + 1) (v3 + 1) q7.2)
set_option maxRecDepth 20000 in
theorem tX0_throwsBorneBy_26 {G : Gm} {p : Program} {l : Launch} {e : Env} {s : State} {m : MethodId} {args : Array Value} {below : List Frame} {meth : Method} {c : Code} {r : Int32 × Mu} {k4 : Nat → Int32 → Int32 → Int32 → Mu → Option (Int32 × Mu)} (hk4 : ∀ (v0 : Nat) (v1 : Int32) (v2 : Int32) (v3 : Int32) (μ : Mu), k4 v0 v1 v2 v3 μ = some r → LX0_throwsBorneBy G p l e s m args below meth c r 4 [(0, .ref (gB G + v0)), (1, .int v1), (2, .int v2), (3, .int v3)] [] μ) (v0 : Nat) (v1 : Int32) (v2 : Int32) (v3 : Int32) (μ : Mu) (hf : fX0_throwsBorneBy_26 k4 v0 v1 v2 v3 μ = some r) : LX0_throwsBorneBy G p l e s m args below meth c r 26 [(0, .ref (gB G + v0)), (1, .int v1), (2, .int v2), (3, .int v3)] [] μ := by
  rw [fX0_throwsBorneBy_26] at hf
  refine x_aload_n 0 dX0_throwsBorneBy_26 rfl ?_
  refine x_iload_n 3 dX0_throwsBorneBy_27 rfl ?_
  obtain ⟨q5, h6, hf⟩ := bnd hf
  refine x_callVi (rest := []) [.int v3] (tX0_kindOf v0 v3 μ h6) wY_X0_kindOf wI_X0_kindOf wS_X0_kindOf wL_X0_92 (grd_p h6) (by decide) rfl rfl (Nat.le_of_ble_eq_true rfl) ⟨Nat.le_of_ble_eq_true rfl, Nat.le_of_ble_eq_true rfl⟩ ⟨Nat.le_refl _, Nat.le_refl _⟩ dX0_throwsBorneBy_28 ?_
  obtain ⟨q7, h8, hf⟩ := bnd hf
  refine x_callSi (rest := []) [.int q5.1] (tX0_isLoose q5.1 q5.2 h8) wY_X0_isLoose wT_X0_isLoose wL_X0_114 rfl (Nat.le_of_ble_eq_true rfl) ⟨Nat.le_of_ble_eq_true rfl, Nat.le_of_ble_eq_true rfl⟩ ⟨Nat.le_refl _, Nat.le_refl _⟩ dX0_throwsBorneBy_31 ?_
  refine x_if_ne 40 dX0_throwsBorneBy_34 rfl (fun c9 => ?_) (fun c9 => ?_)
  · rw [if_neg c9] at hf
    refine x_iinc 2 (v2 + 1) [1, 2, 0, 3] dX0_throwsBorneBy_40 rfl rfl (by decide) (lv' := [(0, .ref (gB G + v0)), (1, .int v1), (2, .int (v2 + 1)), (3, .int v3)]) rfl ?_
    refine x_iinc 3 (v3 + 1) [1, 2, 3, 0] dX0_throwsBorneBy_43 rfl rfl (by decide) (lv' := [(0, .ref (gB G + v0)), (1, .int v1), (2, .int (v2 + 1)), (3, .int (v3 + 1))]) rfl ?_
    refine x_goto 4 dX0_throwsBorneBy_46 rfl ?_
    exact hk4 v0 v1 (v2 + 1) (v3 + 1) q7.2 hf
  · rw [if_pos c9] at hf
    refine x_bipush 8 dX0_throwsBorneBy_37 (by decide) ?_
    exact y_iret rfl rfl rfl hf dX0_throwsBorneBy_39
def fX0_throwsBorneBy_4 : Nat → Nat → Int32 → Int32 → Int32 → Mu → Option (Int32 × Mu)
  | 0, _, _, _, _, _ => none
  | n + 1, v0, v1, v2, v3, μ => (gI 0 v0 1 μ).bind fun x1 =>
    (if x1 ≤ v3 then
    some (v2 - 1, μ)
    else
    (if v3 = v1 then
    fX0_throwsBorneBy_26 (fX0_throwsBorneBy_4 n) v0 v1 v2 v3 μ
    else
    (fX0_isAbove v0 v3 v1 μ).bind fun q10 =>
    (if q10.1 = 0 then
    (fX0_throwsBorneBy_4 n) v0 v1 v2 (v3 + 1) q10.2
    else
    fX0_throwsBorneBy_26 (fX0_throwsBorneBy_4 n) v0 v1 v2 v3 q10.2)))
set_option maxRecDepth 20000 in
theorem tX0_throwsBorneBy_4 {G : Gm} {p : Program} {l : Launch} {e : Env} {s : State} {m : MethodId} {args : Array Value} {below : List Frame} {meth : Method} {c : Code} {r : Int32 × Mu} : ∀ (n : Nat) (v0 : Nat) (v1 : Int32) (v2 : Int32) (v3 : Int32) (μ : Mu), fX0_throwsBorneBy_4 n v0 v1 v2 v3 μ = some r → LX0_throwsBorneBy G p l e s m args below meth c r 4 [(0, .ref (gB G + v0)), (1, .int v1), (2, .int v2), (3, .int v3)] [] μ := by
  intro n
  induction n with
  | zero =>
    intro v0 v1 v2 v3 μ hf
    simp [fX0_throwsBorneBy_4] at hf
  | succ n ih =>
    intro v0 v1 v2 v3 μ hf
    rw [fX0_throwsBorneBy_4] at hf
    refine x_iload_n 3 dX0_throwsBorneBy_4 rfl ?_
    refine x_aload_n 0 dX0_throwsBorneBy_5 rfl ?_
    obtain ⟨x1, h2, hf⟩ := bnd hf
    refine x_getI wF_X0_34 (by decide) (by decide) rfl h2 dX0_throwsBorneBy_6 ?_
    refine x_icmp_ge 49 dX0_throwsBorneBy_9 rfl (fun c3 => ?_) (fun c3 => ?_)
    · rw [if_pos c3] at hf
      refine x_iload_n 2 dX0_throwsBorneBy_49 rfl ?_
      refine x_iconst 1 dX0_throwsBorneBy_50 (by decide) ?_
      refine x_isub dX0_throwsBorneBy_51 ?_
      exact y_iret rfl rfl rfl hf dX0_throwsBorneBy_52
    · rw [if_neg c3] at hf
      refine x_iload_n 3 dX0_throwsBorneBy_12 rfl ?_
      refine x_iload_n 1 dX0_throwsBorneBy_13 rfl ?_
      refine x_icmp_eq 26 dX0_throwsBorneBy_14 rfl (fun c4 => ?_) (fun c4 => ?_)
      · rw [if_pos c4] at hf
        exact tX0_throwsBorneBy_26 ih v0 v1 v2 v3 μ hf
      · rw [if_neg c4] at hf
        refine x_aload_n 0 dX0_throwsBorneBy_17 rfl ?_
        refine x_iload_n 3 dX0_throwsBorneBy_18 rfl ?_
        refine x_iload_n 1 dX0_throwsBorneBy_19 rfl ?_
        obtain ⟨q10, h11, hf⟩ := bnd hf
        refine x_callVi (rest := []) [.int v3, .int v1] (tX0_isAbove v0 v3 v1 μ h11) wY_X0_isAbove wI_X0_isAbove wS_X0_isAbove wL_X0_108 (grd_p h11) (by decide) rfl rfl (Nat.le_of_ble_eq_true rfl) ⟨Nat.le_of_ble_eq_true rfl, Nat.le_of_ble_eq_true rfl⟩ ⟨Nat.le_refl _, Nat.le_refl _⟩ dX0_throwsBorneBy_20 ?_
        refine x_if_eq 43 dX0_throwsBorneBy_23 rfl (fun c12 => ?_) (fun c12 => ?_)
        · rw [if_pos c12] at hf
          refine x_iinc 3 (v3 + 1) [1, 2, 3, 0] dX0_throwsBorneBy_43 rfl rfl (by decide) (lv' := [(0, .ref (gB G + v0)), (1, .int v1), (2, .int v2), (3, .int (v3 + 1))]) rfl ?_
          refine x_goto 4 dX0_throwsBorneBy_46 rfl ?_
          exact ih v0 v1 v2 (v3 + 1) q10.2 hf
        · rw [if_neg c12] at hf
          exact tX0_throwsBorneBy_26 ih v0 v1 v2 v3 q10.2 hf
def fX0_throwsBorneBy (a : Nat) (u1 : Int32) (μ : Mu) : Option (Int32 × Mu) := grd (isO 0 a μ) (fX0_throwsBorneBy_4  FU a u1 0 0 μ)
set_option maxRecDepth 20000 in
theorem tX0_throwsBorneBy {G : Gm} {l : Launch} {r : Int32 × Mu} (a : Nat) (u1 : Int32) (μ : Mu) (hf : fX0_throwsBorneBy a u1 μ = some r) : Mt G l yX0_throwsBorneBy cX0_throwsBorneBy 4 (some .int) (3) 0 0 [.ref (gB G + a), .int u1] μ (some (.int r.1)) r.2 := by
  rw [fX0_throwsBorneBy] at hf
  have hf := grd_v hf
  refine Mt.of (by decide) (Nat.le_of_ble_eq_true rfl) (fun p e s m args below meth c => ?_)
  show LX0_throwsBorneBy G p l e s m args below meth c r 0 [(0, .ref (gB G + a)), (1, .int u1)] [] μ
  refine x_iconst 0 dX0_throwsBorneBy_0 (by decide) ?_
  refine x_istore_n [1, 2, 0] dX0_throwsBorneBy_1 (by decide) (lv' := [(0, .ref (gB G + a)), (1, .int u1), (2, .int 0)]) rfl ?_
  refine x_iconst 0 dX0_throwsBorneBy_2 (by decide) ?_
  refine x_istore_n [1, 2, 3, 0] dX0_throwsBorneBy_3 (by decide) (lv' := [(0, .ref (gB G + a)), (1, .int u1), (2, .int 0), (3, .int 0)]) rfl ?_
  exact tX0_throwsBorneBy_4  FU a u1 0 0 μ hf
abbrev LX0_actByDraw (G : Gm) (p : Program) (l : Launch) (e : Env) (s : State) (m : MethodId) (args : Array Value) (below : List Frame) (meth : Method) (c : Code) (r : Mu) (pc : Nat) (lv : List (Nat × Value)) (st : List Value) (μ : Mu) : Prop := Lt G p l e { frames := 5, cells := 0, slots := 0, locals := 40 * (5) } s m args below meth c cX0_actByDraw 4 RX0 none "actByDraw" (MQ below (Qm G none r 0) args s 0 0 (fA G)) 0 0 pc lv st μ
def fX0_actByDraw (a : Nat) (u1 : Int32) (μ : Mu) : Option (Mu) := grd (isO 0 a μ) ((gI 0 a 1 μ).bind fun x1 =>
    (if x1 < 1 then
    some μ
    else
    (gI 0 a 0 μ).bind fun x4 =>
    (if 1 ≤ x4 then
    (gI 0 a 1 μ).bind fun x7 =>
    (rmd u1 x7).bind fun x9 =>
    (dvd u1 8).bind fun x11 =>
    (gI 0 a 0 μ).bind fun x13 =>
    (rmd x11 x13).bind fun x15 =>
    (fX0_lies a x9 μ).bind fun q17 =>
    (if q17.1 = 0 then
    (fX0_canBePutIn a x9 x15 q17.2).bind fun q27 =>
    (if q27.1 = 0 then
    some q27.2
    else
    (fX0_setOnTop a x9 x15 q27.2).bind fun q30 =>
    some q30)
    else
    (dvd u1 64).bind fun x20 =>
    (rmd x20 4).bind fun x22 =>
    (if x22 = 0 then
    (fX0_takeUp a x9 q17.2).bind fun q25 =>
    some q25.2
    else
    some q17.2))
    else
    some μ)))
set_option maxRecDepth 20000 in
theorem tX0_actByDraw {G : Gm} {l : Launch} {r : Mu} (a : Nat) (u1 : Int32) (μ : Mu) (hf : fX0_actByDraw a u1 μ = some r) : Mt G l yX0_actByDraw cX0_actByDraw 4 none (5) 0 0 [.ref (gB G + a), .int u1] μ none r := by
  rw [fX0_actByDraw] at hf
  have hf := grd_v hf
  refine Mt.of (by decide) (Nat.le_of_ble_eq_true rfl) (fun p e s m args below meth c => ?_)
  show LX0_actByDraw G p l e s m args below meth c r 0 [(0, .ref (gB G + a)), (1, .int u1)] [] μ
  refine x_aload_n 0 dX0_actByDraw_0 rfl ?_
  obtain ⟨x1, h2, hf⟩ := bnd hf
  refine x_getI wF_X0_34 (by decide) (by decide) rfl h2 dX0_actByDraw_1 ?_
  refine x_iconst 1 dX0_actByDraw_4 (by decide) ?_
  refine x_icmp_lt 16 dX0_actByDraw_5 rfl (fun c3 => ?_) (fun c3 => ?_)
  · rw [if_pos c3] at hf
    exact y_vret rfl rfl rfl hf dX0_actByDraw_16
  · rw [if_neg c3] at hf
    refine x_aload_n 0 dX0_actByDraw_8 rfl ?_
    obtain ⟨x4, h5, hf⟩ := bnd hf
    refine x_getI wF_X0_30 (by decide) (by decide) rfl h5 dX0_actByDraw_9 ?_
    refine x_iconst 1 dX0_actByDraw_12 (by decide) ?_
    refine x_icmp_ge 17 dX0_actByDraw_13 rfl (fun c6 => ?_) (fun c6 => ?_)
    · rw [if_pos c6] at hf
      refine x_iload_n 1 dX0_actByDraw_17 rfl ?_
      refine x_aload_n 0 dX0_actByDraw_18 rfl ?_
      obtain ⟨x7, h8, hf⟩ := bnd hf
      refine x_getI wF_X0_34 (by decide) (by decide) rfl h8 dX0_actByDraw_19 ?_
      obtain ⟨x9, h10, hf⟩ := bnd hf
      refine x_irem h10 dX0_actByDraw_22 ?_
      refine x_istore_n [1, 2, 0] dX0_actByDraw_23 (by decide) (lv' := [(0, .ref (gB G + a)), (1, .int u1), (2, .int x9)]) rfl ?_
      refine x_iload_n 1 dX0_actByDraw_24 rfl ?_
      refine x_bipush 8 dX0_actByDraw_25 (by decide) ?_
      obtain ⟨x11, h12, hf⟩ := bnd hf
      refine x_idiv h12 dX0_actByDraw_27 ?_
      refine x_aload_n 0 dX0_actByDraw_28 rfl ?_
      obtain ⟨x13, h14, hf⟩ := bnd hf
      refine x_getI wF_X0_30 (by decide) (by decide) rfl h14 dX0_actByDraw_29 ?_
      obtain ⟨x15, h16, hf⟩ := bnd hf
      refine x_irem h16 dX0_actByDraw_32 ?_
      refine x_istore_n [1, 2, 3, 0] dX0_actByDraw_33 (by decide) (lv' := [(0, .ref (gB G + a)), (1, .int u1), (2, .int x9), (3, .int x15)]) rfl ?_
      refine x_aload_n 0 dX0_actByDraw_34 rfl ?_
      refine x_iload_n 2 dX0_actByDraw_35 rfl ?_
      obtain ⟨q17, h18, hf⟩ := bnd hf
      refine x_callVi (rest := []) [.int x9] (tX0_lies a x9 μ h18) wY_X0_lies wI_X0_lies wS_X0_lies wL_X0_98 (grd_p h18) (by decide) rfl rfl (Nat.le_of_ble_eq_true rfl) ⟨Nat.le_of_ble_eq_true rfl, Nat.le_of_ble_eq_true rfl⟩ ⟨Nat.le_refl _, Nat.le_refl _⟩ dX0_actByDraw_36 ?_
      refine x_if_ne 60 dX0_actByDraw_39 rfl (fun c19 => ?_) (fun c19 => ?_)
      · rw [if_neg c19] at hf
        refine x_iload_n 1 dX0_actByDraw_60 rfl ?_
        refine x_bipush 64 dX0_actByDraw_61 (by decide) ?_
        obtain ⟨x20, h21, hf⟩ := bnd hf
        refine x_idiv h21 dX0_actByDraw_63 ?_
        refine x_iconst 4 dX0_actByDraw_64 (by decide) ?_
        obtain ⟨x22, h23, hf⟩ := bnd hf
        refine x_irem h23 dX0_actByDraw_65 ?_
        refine x_if_ne 75 dX0_actByDraw_66 rfl (fun c24 => ?_) (fun c24 => ?_)
        · rw [if_neg c24] at hf
          exact y_vret rfl rfl rfl hf dX0_actByDraw_75
        · rw [if_pos c24] at hf
          refine x_aload_n 0 dX0_actByDraw_69 rfl ?_
          refine x_iload_n 2 dX0_actByDraw_70 rfl ?_
          obtain ⟨q25, h26, hf⟩ := bnd hf
          refine x_callVi (rest := []) [.int x9] (tX0_takeUp a x9 q17.2 h26) wY_X0_takeUp wI_X0_takeUp wS_X0_takeUp wL_X0_120 (grd_p h26) (by decide) rfl rfl (Nat.le_of_ble_eq_true rfl) ⟨Nat.le_of_ble_eq_true rfl, Nat.le_of_ble_eq_true rfl⟩ ⟨Nat.le_refl _, Nat.le_refl _⟩ dX0_actByDraw_71 ?_
          refine x_pop dX0_actByDraw_74 rfl ?_
          exact y_vret rfl rfl rfl hf dX0_actByDraw_75
      · rw [if_pos c19] at hf
        refine x_aload_n 0 dX0_actByDraw_42 rfl ?_
        refine x_iload_n 2 dX0_actByDraw_43 rfl ?_
        refine x_iload_n 3 dX0_actByDraw_44 rfl ?_
        obtain ⟨q27, h28, hf⟩ := bnd hf
        refine x_callVi (rest := []) [.int x9, .int x15] (tX0_canBePutIn a x9 x15 q17.2 h28) wY_X0_canBePutIn wI_X0_canBePutIn wS_X0_canBePutIn wL_X0_117 (grd_p h28) (by decide) rfl rfl (Nat.le_of_ble_eq_true rfl) ⟨Nat.le_of_ble_eq_true rfl, Nat.le_of_ble_eq_true rfl⟩ ⟨Nat.le_refl _, Nat.le_refl _⟩ dX0_actByDraw_45 ?_
        refine x_if_eq 75 dX0_actByDraw_48 rfl (fun c29 => ?_) (fun c29 => ?_)
        · rw [if_pos c29] at hf
          exact y_vret rfl rfl rfl hf dX0_actByDraw_75
        · rw [if_neg c29] at hf
          refine x_aload_n 0 dX0_actByDraw_51 rfl ?_
          refine x_iload_n 2 dX0_actByDraw_52 rfl ?_
          refine x_iload_n 3 dX0_actByDraw_53 rfl ?_
          obtain ⟨q30, h31, hf⟩ := bnd hf
          refine x_callVv (rest := []) [.int x9, .int x15] (tX0_setOnTop a x9 x15 q27.2 h31) wY_X0_setOnTop wI_X0_setOnTop wS_X0_setOnTop wL_X0_58 (grd_p h31) (by decide) rfl rfl (Nat.le_of_ble_eq_true rfl) ⟨Nat.le_of_ble_eq_true rfl, Nat.le_of_ble_eq_true rfl⟩ ⟨Nat.le_refl _, Nat.le_refl _⟩ dX0_actByDraw_54 ?_
          refine x_goto 75 dX0_actByDraw_57 rfl ?_
          exact y_vret rfl rfl rfl hf dX0_actByDraw_75
    · rw [if_neg c6] at hf
      exact y_vret rfl rfl rfl hf dX0_actByDraw_16
abbrev LX0_lyingCount (G : Gm) (p : Program) (l : Launch) (e : Env) (s : State) (m : MethodId) (args : Array Value) (below : List Frame) (meth : Method) (c : Code) (r : Int32 × Mu) (pc : Nat) (lv : List (Nat × Value)) (st : List Value) (μ : Mu) : Prop := Lt G p l e { frames := 2, cells := 0, slots := 0, locals := 40 * (2) } s m args below meth c cX0_lyingCount 3 RX0 (some .int) "lyingCount" (MQ below (Qm G (some (.int r.1)) r.2 0) args s 0 0 (fA G)) 0 0 pc lv st μ
def fX0_lyingCount_4 : Nat → Nat → Int32 → Int32 → Mu → Option (Int32 × Mu)
  | 0, _, _, _, _ => none
  | n + 1, v0, v1, v2, μ => (gI 0 v0 1 μ).bind fun x1 =>
    (if x1 ≤ v2 then
    some (v1, μ)
    else
    (fX0_lies v0 v2 μ).bind fun q4 =>
    (if q4.1 = 0 then
    (fX0_lyingCount_4 n) v0 v1 (v2 + 1) q4.2
    else
    (fX0_lyingCount_4 n) v0 (v1 + 1) (v2 + 1) q4.2))
set_option maxRecDepth 20000 in
theorem tX0_lyingCount_4 {G : Gm} {p : Program} {l : Launch} {e : Env} {s : State} {m : MethodId} {args : Array Value} {below : List Frame} {meth : Method} {c : Code} {r : Int32 × Mu} : ∀ (n : Nat) (v0 : Nat) (v1 : Int32) (v2 : Int32) (μ : Mu), fX0_lyingCount_4 n v0 v1 v2 μ = some r → LX0_lyingCount G p l e s m args below meth c r 4 [(0, .ref (gB G + v0)), (1, .int v1), (2, .int v2)] [] μ := by
  intro n
  induction n with
  | zero =>
    intro v0 v1 v2 μ hf
    simp [fX0_lyingCount_4] at hf
  | succ n ih =>
    intro v0 v1 v2 μ hf
    rw [fX0_lyingCount_4] at hf
    refine x_iload_n 2 dX0_lyingCount_4 rfl ?_
    refine x_aload_n 0 dX0_lyingCount_5 rfl ?_
    obtain ⟨x1, h2, hf⟩ := bnd hf
    refine x_getI wF_X0_34 (by decide) (by decide) rfl h2 dX0_lyingCount_6 ?_
    refine x_icmp_ge 29 dX0_lyingCount_9 rfl (fun c3 => ?_) (fun c3 => ?_)
    · rw [if_pos c3] at hf
      refine x_iload_n 1 dX0_lyingCount_29 rfl ?_
      exact y_iret rfl rfl rfl hf dX0_lyingCount_30
    · rw [if_neg c3] at hf
      refine x_aload_n 0 dX0_lyingCount_12 rfl ?_
      refine x_iload_n 2 dX0_lyingCount_13 rfl ?_
      obtain ⟨q4, h5, hf⟩ := bnd hf
      refine x_callVi (rest := []) [.int v2] (tX0_lies v0 v2 μ h5) wY_X0_lies wI_X0_lies wS_X0_lies wL_X0_98 (grd_p h5) (by decide) rfl rfl (Nat.le_of_ble_eq_true rfl) ⟨Nat.le_of_ble_eq_true rfl, Nat.le_of_ble_eq_true rfl⟩ ⟨Nat.le_refl _, Nat.le_refl _⟩ dX0_lyingCount_14 ?_
      refine x_if_eq 23 dX0_lyingCount_17 rfl (fun c6 => ?_) (fun c6 => ?_)
      · rw [if_pos c6] at hf
        refine x_iinc 2 (v2 + 1) [1, 2, 0] dX0_lyingCount_23 rfl rfl (by decide) (lv' := [(0, .ref (gB G + v0)), (1, .int v1), (2, .int (v2 + 1))]) rfl ?_
        refine x_goto 4 dX0_lyingCount_26 rfl ?_
        exact ih v0 v1 (v2 + 1) q4.2 hf
      · rw [if_neg c6] at hf
        refine x_iinc 1 (v1 + 1) [1, 0, 2] dX0_lyingCount_20 rfl rfl (by decide) (lv' := [(0, .ref (gB G + v0)), (1, .int (v1 + 1)), (2, .int v2)]) rfl ?_
        refine x_iinc 2 (v2 + 1) [1, 2, 0] dX0_lyingCount_23 rfl rfl (by decide) (lv' := [(0, .ref (gB G + v0)), (1, .int (v1 + 1)), (2, .int (v2 + 1))]) rfl ?_
        refine x_goto 4 dX0_lyingCount_26 rfl ?_
        exact ih v0 (v1 + 1) (v2 + 1) q4.2 hf
def fX0_lyingCount (a : Nat) (μ : Mu) : Option (Int32 × Mu) := grd (isO 0 a μ) (fX0_lyingCount_4  FU a 0 0 μ)
set_option maxRecDepth 20000 in
theorem tX0_lyingCount {G : Gm} {l : Launch} {r : Int32 × Mu} (a : Nat) (μ : Mu) (hf : fX0_lyingCount a μ = some r) : Mt G l yX0_lyingCount cX0_lyingCount 3 (some .int) (2) 0 0 [.ref (gB G + a)] μ (some (.int r.1)) r.2 := by
  rw [fX0_lyingCount] at hf
  have hf := grd_v hf
  refine Mt.of (by decide) (Nat.le_of_ble_eq_true rfl) (fun p e s m args below meth c => ?_)
  show LX0_lyingCount G p l e s m args below meth c r 0 [(0, .ref (gB G + a))] [] μ
  refine x_iconst 0 dX0_lyingCount_0 (by decide) ?_
  refine x_istore_n [1, 0] dX0_lyingCount_1 (by decide) (lv' := [(0, .ref (gB G + a)), (1, .int 0)]) rfl ?_
  refine x_iconst 0 dX0_lyingCount_2 (by decide) ?_
  refine x_istore_n [1, 2, 0] dX0_lyingCount_3 (by decide) (lv' := [(0, .ref (gB G + a)), (1, .int 0), (2, .int 0)]) rfl ?_
  exact tX0_lyingCount_4  FU a 0 0 μ hf
abbrev LX0_lyingWorth (G : Gm) (p : Program) (l : Launch) (e : Env) (s : State) (m : MethodId) (args : Array Value) (below : List Frame) (meth : Method) (c : Code) (r : Int32 × Mu) (pc : Nat) (lv : List (Nat × Value)) (st : List Value) (μ : Mu) : Prop := Lt G p l e { frames := 2, cells := 0, slots := 0, locals := 40 * (2) } s m args below meth c cX0_lyingWorth 3 RX0 (some .int) "lyingWorth" (MQ below (Qm G (some (.int r.1)) r.2 0) args s 0 0 (fA G)) 0 0 pc lv st μ
def fX0_lyingWorth_4 : Nat → Nat → Int32 → Int32 → Mu → Option (Int32 × Mu)
  | 0, _, _, _, _ => none
  | n + 1, v0, v1, v2, μ => (gI 0 v0 1 μ).bind fun x1 =>
    (if x1 ≤ v2 then
    some (v1, μ)
    else
    (fX0_lies v0 v2 μ).bind fun q4 =>
    (if q4.1 = 0 then
    (fX0_lyingWorth_4 n) v0 v1 (v2 + 1) q4.2
    else
    (fX0_worthOf v0 v2 q4.2).bind fun q7 =>
    (fX0_lyingWorth_4 n) v0 (v1 + q7.1) (v2 + 1) q7.2))
set_option maxRecDepth 20000 in
theorem tX0_lyingWorth_4 {G : Gm} {p : Program} {l : Launch} {e : Env} {s : State} {m : MethodId} {args : Array Value} {below : List Frame} {meth : Method} {c : Code} {r : Int32 × Mu} : ∀ (n : Nat) (v0 : Nat) (v1 : Int32) (v2 : Int32) (μ : Mu), fX0_lyingWorth_4 n v0 v1 v2 μ = some r → LX0_lyingWorth G p l e s m args below meth c r 4 [(0, .ref (gB G + v0)), (1, .int v1), (2, .int v2)] [] μ := by
  intro n
  induction n with
  | zero =>
    intro v0 v1 v2 μ hf
    simp [fX0_lyingWorth_4] at hf
  | succ n ih =>
    intro v0 v1 v2 μ hf
    rw [fX0_lyingWorth_4] at hf
    refine x_iload_n 2 dX0_lyingWorth_4 rfl ?_
    refine x_aload_n 0 dX0_lyingWorth_5 rfl ?_
    obtain ⟨x1, h2, hf⟩ := bnd hf
    refine x_getI wF_X0_34 (by decide) (by decide) rfl h2 dX0_lyingWorth_6 ?_
    refine x_icmp_ge 34 dX0_lyingWorth_9 rfl (fun c3 => ?_) (fun c3 => ?_)
    · rw [if_pos c3] at hf
      refine x_iload_n 1 dX0_lyingWorth_34 rfl ?_
      exact y_iret rfl rfl rfl hf dX0_lyingWorth_35
    · rw [if_neg c3] at hf
      refine x_aload_n 0 dX0_lyingWorth_12 rfl ?_
      refine x_iload_n 2 dX0_lyingWorth_13 rfl ?_
      obtain ⟨q4, h5, hf⟩ := bnd hf
      refine x_callVi (rest := []) [.int v2] (tX0_lies v0 v2 μ h5) wY_X0_lies wI_X0_lies wS_X0_lies wL_X0_98 (grd_p h5) (by decide) rfl rfl (Nat.le_of_ble_eq_true rfl) ⟨Nat.le_of_ble_eq_true rfl, Nat.le_of_ble_eq_true rfl⟩ ⟨Nat.le_refl _, Nat.le_refl _⟩ dX0_lyingWorth_14 ?_
      refine x_if_eq 28 dX0_lyingWorth_17 rfl (fun c6 => ?_) (fun c6 => ?_)
      · rw [if_pos c6] at hf
        refine x_iinc 2 (v2 + 1) [1, 2, 0] dX0_lyingWorth_28 rfl rfl (by decide) (lv' := [(0, .ref (gB G + v0)), (1, .int v1), (2, .int (v2 + 1))]) rfl ?_
        refine x_goto 4 dX0_lyingWorth_31 rfl ?_
        exact ih v0 v1 (v2 + 1) q4.2 hf
      · rw [if_neg c6] at hf
        refine x_iload_n 1 dX0_lyingWorth_20 rfl ?_
        refine x_aload_n 0 dX0_lyingWorth_21 rfl ?_
        refine x_iload_n 2 dX0_lyingWorth_22 rfl ?_
        obtain ⟨q7, h8, hf⟩ := bnd hf
        refine x_callVi (rest := [.int v1]) [.int v2] (tX0_worthOf v0 v2 q4.2 h8) wY_X0_worthOf wI_X0_worthOf wS_X0_worthOf wL_X0_123 (grd_p h8) (by decide) rfl rfl (Nat.le_of_ble_eq_true rfl) ⟨Nat.le_of_ble_eq_true rfl, Nat.le_of_ble_eq_true rfl⟩ ⟨Nat.le_refl _, Nat.le_refl _⟩ dX0_lyingWorth_23 ?_
        refine x_iadd dX0_lyingWorth_26 ?_
        refine x_istore_n [1, 0, 2] dX0_lyingWorth_27 (by decide) (lv' := [(0, .ref (gB G + v0)), (1, .int (v1 + q7.1)), (2, .int v2)]) rfl ?_
        refine x_iinc 2 (v2 + 1) [1, 2, 0] dX0_lyingWorth_28 rfl rfl (by decide) (lv' := [(0, .ref (gB G + v0)), (1, .int (v1 + q7.1)), (2, .int (v2 + 1))]) rfl ?_
        refine x_goto 4 dX0_lyingWorth_31 rfl ?_
        exact ih v0 (v1 + q7.1) (v2 + 1) q7.2 hf
def fX0_lyingWorth (a : Nat) (μ : Mu) : Option (Int32 × Mu) := grd (isO 0 a μ) (fX0_lyingWorth_4  FU a 0 0 μ)
set_option maxRecDepth 20000 in
theorem tX0_lyingWorth {G : Gm} {l : Launch} {r : Int32 × Mu} (a : Nat) (μ : Mu) (hf : fX0_lyingWorth a μ = some r) : Mt G l yX0_lyingWorth cX0_lyingWorth 3 (some .int) (2) 0 0 [.ref (gB G + a)] μ (some (.int r.1)) r.2 := by
  rw [fX0_lyingWorth] at hf
  have hf := grd_v hf
  refine Mt.of (by decide) (Nat.le_of_ble_eq_true rfl) (fun p e s m args below meth c => ?_)
  show LX0_lyingWorth G p l e s m args below meth c r 0 [(0, .ref (gB G + a))] [] μ
  refine x_iconst 0 dX0_lyingWorth_0 (by decide) ?_
  refine x_istore_n [1, 0] dX0_lyingWorth_1 (by decide) (lv' := [(0, .ref (gB G + a)), (1, .int 0)]) rfl ?_
  refine x_iconst 0 dX0_lyingWorth_2 (by decide) ?_
  refine x_istore_n [1, 2, 0] dX0_lyingWorth_3 (by decide) (lv' := [(0, .ref (gB G + a)), (1, .int 0), (2, .int 0)]) rfl ?_
  exact tX0_lyingWorth_4  FU a 0 0 μ hf
abbrev LX0_setCount (G : Gm) (p : Program) (l : Launch) (e : Env) (s : State) (m : MethodId) (args : Array Value) (below : List Frame) (meth : Method) (c : Code) (r : Int32 × Mu) (pc : Nat) (lv : List (Nat × Value)) (st : List Value) (μ : Mu) : Prop := Lt G p l e { frames := 0, cells := 0, slots := 0, locals := 40 * (0) } s m args below meth c cX0_setCount 1 RX0 (some .int) "setCount" (MQ below (Qm G (some (.int r.1)) r.2 0) args s 0 0 (fA G)) 0 0 pc lv st μ
def fX0_setCount (a : Nat) (μ : Mu) : Option (Int32 × Mu) := grd (isO 0 a μ) ((gI 0 a 1 μ).bind fun x1 =>
    some (1 <<< (x1 &&& 31), μ))
set_option maxRecDepth 20000 in
theorem tX0_setCount {G : Gm} {l : Launch} {r : Int32 × Mu} (a : Nat) (μ : Mu) (hf : fX0_setCount a μ = some r) : Mt G l yX0_setCount cX0_setCount 1 (some .int) (0) 0 0 [.ref (gB G + a)] μ (some (.int r.1)) r.2 := by
  rw [fX0_setCount] at hf
  have hf := grd_v hf
  refine Mt.of (by decide) (Nat.le_of_ble_eq_true rfl) (fun p e s m args below meth c => ?_)
  show LX0_setCount G p l e s m args below meth c r 0 [(0, .ref (gB G + a))] [] μ
  refine x_iconst 1 dX0_setCount_0 (by decide) ?_
  refine x_aload_n 0 dX0_setCount_1 rfl ?_
  obtain ⟨x1, h2, hf⟩ := bnd hf
  refine x_getI wF_X0_34 (by decide) (by decide) rfl h2 dX0_setCount_2 ?_
  refine x_ishl dX0_setCount_5 ?_
  exact y_iret rfl rfl rfl hf dX0_setCount_6
abbrev LX0_allLie (G : Gm) (p : Program) (l : Launch) (e : Env) (s : State) (m : MethodId) (args : Array Value) (below : List Frame) (meth : Method) (c : Code) (r : Int32 × Mu) (pc : Nat) (lv : List (Nat × Value)) (st : List Value) (μ : Mu) : Prop := Lt G p l e { frames := 2, cells := 0, slots := 0, locals := 40 * (2) } s m args below meth c cX0_allLie 3 RX0 (some .boolean) "allLie" (MQ below (Qm G (some (.int r.1)) r.2 0) args s 0 0 (fA G)) 0 0 pc lv st μ
def fX0_allLie_2 : Nat → Nat → Int32 → Int32 → Mu → Option (Int32 × Mu)
  | 0, _, _, _, _ => none
  | n + 1, v0, v1, v2, μ => (gI 0 v0 1 μ).bind fun x1 =>
    (if x1 ≤ v2 then
    some (1, μ)
    else
    (if ((v1 >>> (v2 &&& 31)) &&& 1) = 1 then
    (fX0_lies v0 v2 μ).bind fun q5 =>
    (if q5.1 = 0 then
    some (0, q5.2)
    else
    (fX0_allLie_2 n) v0 v1 (v2 + 1) q5.2)
    else
    (fX0_allLie_2 n) v0 v1 (v2 + 1) μ))
set_option maxRecDepth 20000 in
theorem tX0_allLie_2 {G : Gm} {p : Program} {l : Launch} {e : Env} {s : State} {m : MethodId} {args : Array Value} {below : List Frame} {meth : Method} {c : Code} {r : Int32 × Mu} : ∀ (n : Nat) (v0 : Nat) (v1 : Int32) (v2 : Int32) (μ : Mu), fX0_allLie_2 n v0 v1 v2 μ = some r → LX0_allLie G p l e s m args below meth c r 2 [(0, .ref (gB G + v0)), (1, .int v1), (2, .int v2)] [] μ := by
  intro n
  induction n with
  | zero =>
    intro v0 v1 v2 μ hf
    simp [fX0_allLie_2] at hf
  | succ n ih =>
    intro v0 v1 v2 μ hf
    rw [fX0_allLie_2] at hf
    refine x_iload_n 2 dX0_allLie_2 rfl ?_
    refine x_aload_n 0 dX0_allLie_3 rfl ?_
    obtain ⟨x1, h2, hf⟩ := bnd hf
    refine x_getI wF_X0_34 (by decide) (by decide) rfl h2 dX0_allLie_4 ?_
    refine x_icmp_ge 35 dX0_allLie_7 rfl (fun c3 => ?_) (fun c3 => ?_)
    · rw [if_pos c3] at hf
      refine x_iconst 1 dX0_allLie_35 (by decide) ?_
      exact y_zret rfl (by decide) rfl rfl hf dX0_allLie_36
    · rw [if_neg c3] at hf
      refine x_iload_n 1 dX0_allLie_10 rfl ?_
      refine x_iload_n 2 dX0_allLie_11 rfl ?_
      refine x_ishr dX0_allLie_12 ?_
      refine x_iconst 1 dX0_allLie_13 (by decide) ?_
      refine x_iand dX0_allLie_14 ?_
      refine x_iconst 1 dX0_allLie_15 (by decide) ?_
      refine x_icmp_ne 29 dX0_allLie_16 rfl (fun c4 => ?_) (fun c4 => ?_)
      · rw [if_neg c4] at hf
        refine x_iinc 2 (v2 + 1) [1, 2, 0] dX0_allLie_29 rfl rfl (by decide) (lv' := [(0, .ref (gB G + v0)), (1, .int v1), (2, .int (v2 + 1))]) rfl ?_
        refine x_goto 2 dX0_allLie_32 rfl ?_
        exact ih v0 v1 (v2 + 1) μ hf
      · rw [if_pos c4] at hf
        refine x_aload_n 0 dX0_allLie_19 rfl ?_
        refine x_iload_n 2 dX0_allLie_20 rfl ?_
        obtain ⟨q5, h6, hf⟩ := bnd hf
        refine x_callVi (rest := []) [.int v2] (tX0_lies v0 v2 μ h6) wY_X0_lies wI_X0_lies wS_X0_lies wL_X0_98 (grd_p h6) (by decide) rfl rfl (Nat.le_of_ble_eq_true rfl) ⟨Nat.le_of_ble_eq_true rfl, Nat.le_of_ble_eq_true rfl⟩ ⟨Nat.le_refl _, Nat.le_refl _⟩ dX0_allLie_21 ?_
        refine x_if_ne 29 dX0_allLie_24 rfl (fun c7 => ?_) (fun c7 => ?_)
        · rw [if_neg c7] at hf
          refine x_iinc 2 (v2 + 1) [1, 2, 0] dX0_allLie_29 rfl rfl (by decide) (lv' := [(0, .ref (gB G + v0)), (1, .int v1), (2, .int (v2 + 1))]) rfl ?_
          refine x_goto 2 dX0_allLie_32 rfl ?_
          exact ih v0 v1 (v2 + 1) q5.2 hf
        · rw [if_pos c7] at hf
          refine x_iconst 0 dX0_allLie_27 (by decide) ?_
          exact y_zret rfl (by decide) rfl rfl hf dX0_allLie_28
def fX0_allLie (a : Nat) (u1 : Int32) (μ : Mu) : Option (Int32 × Mu) := grd (isO 0 a μ) (fX0_allLie_2  FU a u1 0 μ)
set_option maxRecDepth 20000 in
theorem tX0_allLie {G : Gm} {l : Launch} {r : Int32 × Mu} (a : Nat) (u1 : Int32) (μ : Mu) (hf : fX0_allLie a u1 μ = some r) : Mt G l yX0_allLie cX0_allLie 3 (some .boolean) (2) 0 0 [.ref (gB G + a), .int u1] μ (some (.int r.1)) r.2 := by
  rw [fX0_allLie] at hf
  have hf := grd_v hf
  refine Mt.of (by decide) (Nat.le_of_ble_eq_true rfl) (fun p e s m args below meth c => ?_)
  show LX0_allLie G p l e s m args below meth c r 0 [(0, .ref (gB G + a)), (1, .int u1)] [] μ
  refine x_iconst 0 dX0_allLie_0 (by decide) ?_
  refine x_istore_n [1, 2, 0] dX0_allLie_1 (by decide) (lv' := [(0, .ref (gB G + a)), (1, .int u1), (2, .int 0)]) rfl ?_
  exact tX0_allLie_2  FU a u1 0 μ hf
abbrev LX0_worthOfSet (G : Gm) (p : Program) (l : Launch) (e : Env) (s : State) (m : MethodId) (args : Array Value) (below : List Frame) (meth : Method) (c : Code) (r : Int32 × Mu) (pc : Nat) (lv : List (Nat × Value)) (st : List Value) (μ : Mu) : Prop := Lt G p l e { frames := 2, cells := 0, slots := 0, locals := 40 * (2) } s m args below meth c cX0_worthOfSet 4 RX0 (some .int) "worthOfSet" (MQ below (Qm G (some (.int r.1)) r.2 0) args s 0 0 (fA G)) 0 0 pc lv st μ
def fX0_worthOfSet_4 : Nat → Nat → Int32 → Int32 → Int32 → Mu → Option (Int32 × Mu)
  | 0, _, _, _, _, _ => none
  | n + 1, v0, v1, v2, v3, μ => (gI 0 v0 1 μ).bind fun x1 =>
    (if x1 ≤ v3 then
    some (v2, μ)
    else
    (if ((v1 >>> (v3 &&& 31)) &&& 1) = 1 then
    (fX0_worthOf v0 v3 μ).bind fun q5 =>
    (fX0_worthOfSet_4 n) v0 v1 (v2 + q5.1) (v3 + 1) q5.2
    else
    (fX0_worthOfSet_4 n) v0 v1 v2 (v3 + 1) μ))
set_option maxRecDepth 20000 in
theorem tX0_worthOfSet_4 {G : Gm} {p : Program} {l : Launch} {e : Env} {s : State} {m : MethodId} {args : Array Value} {below : List Frame} {meth : Method} {c : Code} {r : Int32 × Mu} : ∀ (n : Nat) (v0 : Nat) (v1 : Int32) (v2 : Int32) (v3 : Int32) (μ : Mu), fX0_worthOfSet_4 n v0 v1 v2 v3 μ = some r → LX0_worthOfSet G p l e s m args below meth c r 4 [(0, .ref (gB G + v0)), (1, .int v1), (2, .int v2), (3, .int v3)] [] μ := by
  intro n
  induction n with
  | zero =>
    intro v0 v1 v2 v3 μ hf
    simp [fX0_worthOfSet_4] at hf
  | succ n ih =>
    intro v0 v1 v2 v3 μ hf
    rw [fX0_worthOfSet_4] at hf
    refine x_iload_n 3 dX0_worthOfSet_4 rfl ?_
    refine x_aload_n 0 dX0_worthOfSet_5 rfl ?_
    obtain ⟨x1, h2, hf⟩ := bnd hf
    refine x_getI wF_X0_34 (by decide) (by decide) rfl h2 dX0_worthOfSet_6 ?_
    refine x_icmp_ge 35 dX0_worthOfSet_9 rfl (fun c3 => ?_) (fun c3 => ?_)
    · rw [if_pos c3] at hf
      refine x_iload_n 2 dX0_worthOfSet_35 rfl ?_
      exact y_iret rfl rfl rfl hf dX0_worthOfSet_36
    · rw [if_neg c3] at hf
      refine x_iload_n 1 dX0_worthOfSet_12 rfl ?_
      refine x_iload_n 3 dX0_worthOfSet_13 rfl ?_
      refine x_ishr dX0_worthOfSet_14 ?_
      refine x_iconst 1 dX0_worthOfSet_15 (by decide) ?_
      refine x_iand dX0_worthOfSet_16 ?_
      refine x_iconst 1 dX0_worthOfSet_17 (by decide) ?_
      refine x_icmp_ne 29 dX0_worthOfSet_18 rfl (fun c4 => ?_) (fun c4 => ?_)
      · rw [if_neg c4] at hf
        refine x_iinc 3 (v3 + 1) [1, 2, 3, 0] dX0_worthOfSet_29 rfl rfl (by decide) (lv' := [(0, .ref (gB G + v0)), (1, .int v1), (2, .int v2), (3, .int (v3 + 1))]) rfl ?_
        refine x_goto 4 dX0_worthOfSet_32 rfl ?_
        exact ih v0 v1 v2 (v3 + 1) μ hf
      · rw [if_pos c4] at hf
        refine x_iload_n 2 dX0_worthOfSet_21 rfl ?_
        refine x_aload_n 0 dX0_worthOfSet_22 rfl ?_
        refine x_iload_n 3 dX0_worthOfSet_23 rfl ?_
        obtain ⟨q5, h6, hf⟩ := bnd hf
        refine x_callVi (rest := [.int v2]) [.int v3] (tX0_worthOf v0 v3 μ h6) wY_X0_worthOf wI_X0_worthOf wS_X0_worthOf wL_X0_123 (grd_p h6) (by decide) rfl rfl (Nat.le_of_ble_eq_true rfl) ⟨Nat.le_of_ble_eq_true rfl, Nat.le_of_ble_eq_true rfl⟩ ⟨Nat.le_refl _, Nat.le_refl _⟩ dX0_worthOfSet_24 ?_
        refine x_iadd dX0_worthOfSet_27 ?_
        refine x_istore_n [1, 2, 0, 3] dX0_worthOfSet_28 (by decide) (lv' := [(0, .ref (gB G + v0)), (1, .int v1), (2, .int (v2 + q5.1)), (3, .int v3)]) rfl ?_
        refine x_iinc 3 (v3 + 1) [1, 2, 3, 0] dX0_worthOfSet_29 rfl rfl (by decide) (lv' := [(0, .ref (gB G + v0)), (1, .int v1), (2, .int (v2 + q5.1)), (3, .int (v3 + 1))]) rfl ?_
        refine x_goto 4 dX0_worthOfSet_32 rfl ?_
        exact ih v0 v1 (v2 + q5.1) (v3 + 1) q5.2 hf
def fX0_worthOfSet (a : Nat) (u1 : Int32) (μ : Mu) : Option (Int32 × Mu) := grd (isO 0 a μ) (fX0_worthOfSet_4  FU a u1 0 0 μ)
set_option maxRecDepth 20000 in
theorem tX0_worthOfSet {G : Gm} {l : Launch} {r : Int32 × Mu} (a : Nat) (u1 : Int32) (μ : Mu) (hf : fX0_worthOfSet a u1 μ = some r) : Mt G l yX0_worthOfSet cX0_worthOfSet 4 (some .int) (2) 0 0 [.ref (gB G + a), .int u1] μ (some (.int r.1)) r.2 := by
  rw [fX0_worthOfSet] at hf
  have hf := grd_v hf
  refine Mt.of (by decide) (Nat.le_of_ble_eq_true rfl) (fun p e s m args below meth c => ?_)
  show LX0_worthOfSet G p l e s m args below meth c r 0 [(0, .ref (gB G + a)), (1, .int u1)] [] μ
  refine x_iconst 0 dX0_worthOfSet_0 (by decide) ?_
  refine x_istore_n [1, 2, 0] dX0_worthOfSet_1 (by decide) (lv' := [(0, .ref (gB G + a)), (1, .int u1), (2, .int 0)]) rfl ?_
  refine x_iconst 0 dX0_worthOfSet_2 (by decide) ?_
  refine x_istore_n [1, 2, 3, 0] dX0_worthOfSet_3 (by decide) (lv' := [(0, .ref (gB G + a)), (1, .int u1), (2, .int 0), (3, .int 0)]) rfl ?_
  exact tX0_worthOfSet_4  FU a u1 0 0 μ hf
abbrev LJ6_bitCount_0f7a4 (G : Gm) (p : Program) (l : Launch) (e : Env) (s : State) (m : MethodId) (args : Array Value) (below : List Frame) (meth : Method) (c : Code) (r : Int32 × Mu) (pc : Nat) (lv : List (Nat × Value)) (st : List Value) (μ : Mu) : Prop := Lt G p l e { frames := 0, cells := 0, slots := 0, locals := 40 * (0) } s m args below meth c cJ6_bitCount_0f7a4 1 RJ6 (some .int) "bitCount" (MQ below (Qm G (some (.int r.1)) r.2 0) args s 0 0 (fA G)) 0 0 pc lv st μ
def fJ6_bitCount_0f7a4 (u1 : Int32) (μ : Mu) : Option (Int32 × Mu) := some ((((((((u1 - (((u1.toUInt32 >>> ((1 : Int32).toUInt32 &&& Int32.toUInt32 31)).toInt32) &&& 1431655765)) &&& 858993459) + ((((u1 - (((u1.toUInt32 >>> ((1 : Int32).toUInt32 &&& Int32.toUInt32 31)).toInt32) &&& 1431655765)).toUInt32 >>> ((2 : Int32).toUInt32 &&& Int32.toUInt32 31)).toInt32) &&& 858993459)) + (((((u1 - (((u1.toUInt32 >>> ((1 : Int32).toUInt32 &&& Int32.toUInt32 31)).toInt32) &&& 1431655765)) &&& 858993459) + ((((u1 - (((u1.toUInt32 >>> ((1 : Int32).toUInt32 &&& Int32.toUInt32 31)).toInt32) &&& 1431655765)).toUInt32 >>> ((2 : Int32).toUInt32 &&& Int32.toUInt32 31)).toInt32) &&& 858993459)).toUInt32 >>> ((4 : Int32).toUInt32 &&& Int32.toUInt32 31)).toInt32)) &&& 252645135) + (((((((u1 - (((u1.toUInt32 >>> ((1 : Int32).toUInt32 &&& Int32.toUInt32 31)).toInt32) &&& 1431655765)) &&& 858993459) + ((((u1 - (((u1.toUInt32 >>> ((1 : Int32).toUInt32 &&& Int32.toUInt32 31)).toInt32) &&& 1431655765)).toUInt32 >>> ((2 : Int32).toUInt32 &&& Int32.toUInt32 31)).toInt32) &&& 858993459)) + (((((u1 - (((u1.toUInt32 >>> ((1 : Int32).toUInt32 &&& Int32.toUInt32 31)).toInt32) &&& 1431655765)) &&& 858993459) + ((((u1 - (((u1.toUInt32 >>> ((1 : Int32).toUInt32 &&& Int32.toUInt32 31)).toInt32) &&& 1431655765)).toUInt32 >>> ((2 : Int32).toUInt32 &&& Int32.toUInt32 31)).toInt32) &&& 858993459)).toUInt32 >>> ((4 : Int32).toUInt32 &&& Int32.toUInt32 31)).toInt32)) &&& 252645135).toUInt32 >>> ((8 : Int32).toUInt32 &&& Int32.toUInt32 31)).toInt32)) + ((((((((u1 - (((u1.toUInt32 >>> ((1 : Int32).toUInt32 &&& Int32.toUInt32 31)).toInt32) &&& 1431655765)) &&& 858993459) + ((((u1 - (((u1.toUInt32 >>> ((1 : Int32).toUInt32 &&& Int32.toUInt32 31)).toInt32) &&& 1431655765)).toUInt32 >>> ((2 : Int32).toUInt32 &&& Int32.toUInt32 31)).toInt32) &&& 858993459)) + (((((u1 - (((u1.toUInt32 >>> ((1 : Int32).toUInt32 &&& Int32.toUInt32 31)).toInt32) &&& 1431655765)) &&& 858993459) + ((((u1 - (((u1.toUInt32 >>> ((1 : Int32).toUInt32 &&& Int32.toUInt32 31)).toInt32) &&& 1431655765)).toUInt32 >>> ((2 : Int32).toUInt32 &&& Int32.toUInt32 31)).toInt32) &&& 858993459)).toUInt32 >>> ((4 : Int32).toUInt32 &&& Int32.toUInt32 31)).toInt32)) &&& 252645135) + (((((((u1 - (((u1.toUInt32 >>> ((1 : Int32).toUInt32 &&& Int32.toUInt32 31)).toInt32) &&& 1431655765)) &&& 858993459) + ((((u1 - (((u1.toUInt32 >>> ((1 : Int32).toUInt32 &&& Int32.toUInt32 31)).toInt32) &&& 1431655765)).toUInt32 >>> ((2 : Int32).toUInt32 &&& Int32.toUInt32 31)).toInt32) &&& 858993459)) + (((((u1 - (((u1.toUInt32 >>> ((1 : Int32).toUInt32 &&& Int32.toUInt32 31)).toInt32) &&& 1431655765)) &&& 858993459) + ((((u1 - (((u1.toUInt32 >>> ((1 : Int32).toUInt32 &&& Int32.toUInt32 31)).toInt32) &&& 1431655765)).toUInt32 >>> ((2 : Int32).toUInt32 &&& Int32.toUInt32 31)).toInt32) &&& 858993459)).toUInt32 >>> ((4 : Int32).toUInt32 &&& Int32.toUInt32 31)).toInt32)) &&& 252645135).toUInt32 >>> ((8 : Int32).toUInt32 &&& Int32.toUInt32 31)).toInt32)).toUInt32 >>> ((16 : Int32).toUInt32 &&& Int32.toUInt32 31)).toInt32)) &&& 63, μ)
set_option maxRecDepth 20000 in
theorem tJ6_bitCount_0f7a4 {G : Gm} {l : Launch} {r : Int32 × Mu} (u1 : Int32) (μ : Mu) (hf : fJ6_bitCount_0f7a4 u1 μ = some r) : Mt G l yJ6_bitCount_0f7a4 cJ6_bitCount_0f7a4 1 (some .int) (0) 0 0 [.int u1] μ (some (.int r.1)) r.2 := by
  rw [fJ6_bitCount_0f7a4] at hf
  refine Mt.of (by decide) (Nat.le_of_ble_eq_true rfl) (fun p e s m args below meth c => ?_)
  show LJ6_bitCount_0f7a4 G p l e s m args below meth c r 0 [(0, .int u1)] [] μ
  refine x_iload_n 0 dJ6_bitCount_0f7a4_0 rfl ?_
  refine x_iload_n 0 dJ6_bitCount_0f7a4_1 rfl ?_
  refine x_iconst 1 dJ6_bitCount_0f7a4_2 (by decide) ?_
  refine x_iushr dJ6_bitCount_0f7a4_3 ?_
  refine x_ldcw wC_J6_265 dJ6_bitCount_0f7a4_4 ?_
  refine x_iand dJ6_bitCount_0f7a4_7 ?_
  refine x_isub dJ6_bitCount_0f7a4_8 ?_
  refine x_istore_n [0] dJ6_bitCount_0f7a4_9 (by decide) (lv' := [(0, .int (u1 - (((u1.toUInt32 >>> ((1 : Int32).toUInt32 &&& Int32.toUInt32 31)).toInt32) &&& 1431655765)))]) rfl ?_
  refine x_iload_n 0 dJ6_bitCount_0f7a4_10 rfl ?_
  refine x_ldcw wC_J6_266 dJ6_bitCount_0f7a4_11 ?_
  refine x_iand dJ6_bitCount_0f7a4_14 ?_
  refine x_iload_n 0 dJ6_bitCount_0f7a4_15 rfl ?_
  refine x_iconst 2 dJ6_bitCount_0f7a4_16 (by decide) ?_
  refine x_iushr dJ6_bitCount_0f7a4_17 ?_
  refine x_ldcw wC_J6_266 dJ6_bitCount_0f7a4_18 ?_
  refine x_iand dJ6_bitCount_0f7a4_21 ?_
  refine x_iadd dJ6_bitCount_0f7a4_22 ?_
  refine x_istore_n [0] dJ6_bitCount_0f7a4_23 (by decide) (lv' := [(0, .int (((u1 - (((u1.toUInt32 >>> ((1 : Int32).toUInt32 &&& Int32.toUInt32 31)).toInt32) &&& 1431655765)) &&& 858993459) + ((((u1 - (((u1.toUInt32 >>> ((1 : Int32).toUInt32 &&& Int32.toUInt32 31)).toInt32) &&& 1431655765)).toUInt32 >>> ((2 : Int32).toUInt32 &&& Int32.toUInt32 31)).toInt32) &&& 858993459)))]) rfl ?_
  refine x_iload_n 0 dJ6_bitCount_0f7a4_24 rfl ?_
  refine x_iload_n 0 dJ6_bitCount_0f7a4_25 rfl ?_
  refine x_iconst 4 dJ6_bitCount_0f7a4_26 (by decide) ?_
  refine x_iushr dJ6_bitCount_0f7a4_27 ?_
  refine x_iadd dJ6_bitCount_0f7a4_28 ?_
  refine x_ldcw wC_J6_267 dJ6_bitCount_0f7a4_29 ?_
  refine x_iand dJ6_bitCount_0f7a4_32 ?_
  refine x_istore_n [0] dJ6_bitCount_0f7a4_33 (by decide) (lv' := [(0, .int (((((u1 - (((u1.toUInt32 >>> ((1 : Int32).toUInt32 &&& Int32.toUInt32 31)).toInt32) &&& 1431655765)) &&& 858993459) + ((((u1 - (((u1.toUInt32 >>> ((1 : Int32).toUInt32 &&& Int32.toUInt32 31)).toInt32) &&& 1431655765)).toUInt32 >>> ((2 : Int32).toUInt32 &&& Int32.toUInt32 31)).toInt32) &&& 858993459)) + (((((u1 - (((u1.toUInt32 >>> ((1 : Int32).toUInt32 &&& Int32.toUInt32 31)).toInt32) &&& 1431655765)) &&& 858993459) + ((((u1 - (((u1.toUInt32 >>> ((1 : Int32).toUInt32 &&& Int32.toUInt32 31)).toInt32) &&& 1431655765)).toUInt32 >>> ((2 : Int32).toUInt32 &&& Int32.toUInt32 31)).toInt32) &&& 858993459)).toUInt32 >>> ((4 : Int32).toUInt32 &&& Int32.toUInt32 31)).toInt32)) &&& 252645135))]) rfl ?_
  refine x_iload_n 0 dJ6_bitCount_0f7a4_34 rfl ?_
  refine x_iload_n 0 dJ6_bitCount_0f7a4_35 rfl ?_
  refine x_bipush 8 dJ6_bitCount_0f7a4_36 (by decide) ?_
  refine x_iushr dJ6_bitCount_0f7a4_38 ?_
  refine x_iadd dJ6_bitCount_0f7a4_39 ?_
  refine x_istore_n [0] dJ6_bitCount_0f7a4_40 (by decide) (lv' := [(0, .int ((((((u1 - (((u1.toUInt32 >>> ((1 : Int32).toUInt32 &&& Int32.toUInt32 31)).toInt32) &&& 1431655765)) &&& 858993459) + ((((u1 - (((u1.toUInt32 >>> ((1 : Int32).toUInt32 &&& Int32.toUInt32 31)).toInt32) &&& 1431655765)).toUInt32 >>> ((2 : Int32).toUInt32 &&& Int32.toUInt32 31)).toInt32) &&& 858993459)) + (((((u1 - (((u1.toUInt32 >>> ((1 : Int32).toUInt32 &&& Int32.toUInt32 31)).toInt32) &&& 1431655765)) &&& 858993459) + ((((u1 - (((u1.toUInt32 >>> ((1 : Int32).toUInt32 &&& Int32.toUInt32 31)).toInt32) &&& 1431655765)).toUInt32 >>> ((2 : Int32).toUInt32 &&& Int32.toUInt32 31)).toInt32) &&& 858993459)).toUInt32 >>> ((4 : Int32).toUInt32 &&& Int32.toUInt32 31)).toInt32)) &&& 252645135) + (((((((u1 - (((u1.toUInt32 >>> ((1 : Int32).toUInt32 &&& Int32.toUInt32 31)).toInt32) &&& 1431655765)) &&& 858993459) + ((((u1 - (((u1.toUInt32 >>> ((1 : Int32).toUInt32 &&& Int32.toUInt32 31)).toInt32) &&& 1431655765)).toUInt32 >>> ((2 : Int32).toUInt32 &&& Int32.toUInt32 31)).toInt32) &&& 858993459)) + (((((u1 - (((u1.toUInt32 >>> ((1 : Int32).toUInt32 &&& Int32.toUInt32 31)).toInt32) &&& 1431655765)) &&& 858993459) + ((((u1 - (((u1.toUInt32 >>> ((1 : Int32).toUInt32 &&& Int32.toUInt32 31)).toInt32) &&& 1431655765)).toUInt32 >>> ((2 : Int32).toUInt32 &&& Int32.toUInt32 31)).toInt32) &&& 858993459)).toUInt32 >>> ((4 : Int32).toUInt32 &&& Int32.toUInt32 31)).toInt32)) &&& 252645135).toUInt32 >>> ((8 : Int32).toUInt32 &&& Int32.toUInt32 31)).toInt32)))]) rfl ?_
  refine x_iload_n 0 dJ6_bitCount_0f7a4_41 rfl ?_
  refine x_iload_n 0 dJ6_bitCount_0f7a4_42 rfl ?_
  refine x_bipush 16 dJ6_bitCount_0f7a4_43 (by decide) ?_
  refine x_iushr dJ6_bitCount_0f7a4_45 ?_
  refine x_iadd dJ6_bitCount_0f7a4_46 ?_
  refine x_istore_n [0] dJ6_bitCount_0f7a4_47 (by decide) (lv' := [(0, .int (((((((u1 - (((u1.toUInt32 >>> ((1 : Int32).toUInt32 &&& Int32.toUInt32 31)).toInt32) &&& 1431655765)) &&& 858993459) + ((((u1 - (((u1.toUInt32 >>> ((1 : Int32).toUInt32 &&& Int32.toUInt32 31)).toInt32) &&& 1431655765)).toUInt32 >>> ((2 : Int32).toUInt32 &&& Int32.toUInt32 31)).toInt32) &&& 858993459)) + (((((u1 - (((u1.toUInt32 >>> ((1 : Int32).toUInt32 &&& Int32.toUInt32 31)).toInt32) &&& 1431655765)) &&& 858993459) + ((((u1 - (((u1.toUInt32 >>> ((1 : Int32).toUInt32 &&& Int32.toUInt32 31)).toInt32) &&& 1431655765)).toUInt32 >>> ((2 : Int32).toUInt32 &&& Int32.toUInt32 31)).toInt32) &&& 858993459)).toUInt32 >>> ((4 : Int32).toUInt32 &&& Int32.toUInt32 31)).toInt32)) &&& 252645135) + (((((((u1 - (((u1.toUInt32 >>> ((1 : Int32).toUInt32 &&& Int32.toUInt32 31)).toInt32) &&& 1431655765)) &&& 858993459) + ((((u1 - (((u1.toUInt32 >>> ((1 : Int32).toUInt32 &&& Int32.toUInt32 31)).toInt32) &&& 1431655765)).toUInt32 >>> ((2 : Int32).toUInt32 &&& Int32.toUInt32 31)).toInt32) &&& 858993459)) + (((((u1 - (((u1.toUInt32 >>> ((1 : Int32).toUInt32 &&& Int32.toUInt32 31)).toInt32) &&& 1431655765)) &&& 858993459) + ((((u1 - (((u1.toUInt32 >>> ((1 : Int32).toUInt32 &&& Int32.toUInt32 31)).toInt32) &&& 1431655765)).toUInt32 >>> ((2 : Int32).toUInt32 &&& Int32.toUInt32 31)).toInt32) &&& 858993459)).toUInt32 >>> ((4 : Int32).toUInt32 &&& Int32.toUInt32 31)).toInt32)) &&& 252645135).toUInt32 >>> ((8 : Int32).toUInt32 &&& Int32.toUInt32 31)).toInt32)) + ((((((((u1 - (((u1.toUInt32 >>> ((1 : Int32).toUInt32 &&& Int32.toUInt32 31)).toInt32) &&& 1431655765)) &&& 858993459) + ((((u1 - (((u1.toUInt32 >>> ((1 : Int32).toUInt32 &&& Int32.toUInt32 31)).toInt32) &&& 1431655765)).toUInt32 >>> ((2 : Int32).toUInt32 &&& Int32.toUInt32 31)).toInt32) &&& 858993459)) + (((((u1 - (((u1.toUInt32 >>> ((1 : Int32).toUInt32 &&& Int32.toUInt32 31)).toInt32) &&& 1431655765)) &&& 858993459) + ((((u1 - (((u1.toUInt32 >>> ((1 : Int32).toUInt32 &&& Int32.toUInt32 31)).toInt32) &&& 1431655765)).toUInt32 >>> ((2 : Int32).toUInt32 &&& Int32.toUInt32 31)).toInt32) &&& 858993459)).toUInt32 >>> ((4 : Int32).toUInt32 &&& Int32.toUInt32 31)).toInt32)) &&& 252645135) + (((((((u1 - (((u1.toUInt32 >>> ((1 : Int32).toUInt32 &&& Int32.toUInt32 31)).toInt32) &&& 1431655765)) &&& 858993459) + ((((u1 - (((u1.toUInt32 >>> ((1 : Int32).toUInt32 &&& Int32.toUInt32 31)).toInt32) &&& 1431655765)).toUInt32 >>> ((2 : Int32).toUInt32 &&& Int32.toUInt32 31)).toInt32) &&& 858993459)) + (((((u1 - (((u1.toUInt32 >>> ((1 : Int32).toUInt32 &&& Int32.toUInt32 31)).toInt32) &&& 1431655765)) &&& 858993459) + ((((u1 - (((u1.toUInt32 >>> ((1 : Int32).toUInt32 &&& Int32.toUInt32 31)).toInt32) &&& 1431655765)).toUInt32 >>> ((2 : Int32).toUInt32 &&& Int32.toUInt32 31)).toInt32) &&& 858993459)).toUInt32 >>> ((4 : Int32).toUInt32 &&& Int32.toUInt32 31)).toInt32)) &&& 252645135).toUInt32 >>> ((8 : Int32).toUInt32 &&& Int32.toUInt32 31)).toInt32)).toUInt32 >>> ((16 : Int32).toUInt32 &&& Int32.toUInt32 31)).toInt32)))]) rfl ?_
  refine x_iload_n 0 dJ6_bitCount_0f7a4_48 rfl ?_
  refine x_bipush 63 dJ6_bitCount_0f7a4_49 (by decide) ?_
  refine x_iand dJ6_bitCount_0f7a4_51 ?_
  exact y_iret rfl rfl rfl hf dJ6_bitCount_0f7a4_52
abbrev LX0_stirOf (G : Gm) (p : Program) (l : Launch) (e : Env) (s : State) (m : MethodId) (args : Array Value) (below : List Frame) (meth : Method) (c : Code) (r : Int32 × Mu) (pc : Nat) (lv : List (Nat × Value)) (st : List Value) (μ : Mu) : Prop := Lt G p l e { frames := 4, cells := 0, slots := 0, locals := 40 * (4) } s m args below meth c cX0_stirOf 4 RX0 (some .int) "stirOf" (MQ below (Qm G (some (.int r.1)) r.2 0) args s 0 0 (fA G)) 0 0 pc lv st μ
def fX0_stirOf_4 : Nat → Nat → Int32 → Int32 → Int32 → Mu → Option (Int32 × Mu)
  | 0, _, _, _, _, _ => none
  | n + 1, v0, v1, v2, v3, μ => (gI 0 v0 1 μ).bind fun x1 =>
    (if x1 ≤ v3 then
    (fJ6_bitCount_0f7a4 (v2 &&& (v1 ^^^ (-1))) μ).bind fun q4 =>
    some (q4.1, q4.2)
    else
    (if ((v1 >>> (v3 &&& 31)) &&& 1) = 1 then
    (fX0_bitsAbove v0 v3 μ).bind fun q7 =>
    (fX0_stirOf_4 n) v0 v1 (v2 ||| q7.1) (v3 + 1) q7.2
    else
    (fX0_stirOf_4 n) v0 v1 v2 (v3 + 1) μ))
set_option maxRecDepth 20000 in
theorem tX0_stirOf_4 {G : Gm} {p : Program} {l : Launch} {e : Env} {s : State} {m : MethodId} {args : Array Value} {below : List Frame} {meth : Method} {c : Code} {r : Int32 × Mu} : ∀ (n : Nat) (v0 : Nat) (v1 : Int32) (v2 : Int32) (v3 : Int32) (μ : Mu), fX0_stirOf_4 n v0 v1 v2 v3 μ = some r → LX0_stirOf G p l e s m args below meth c r 4 [(0, .ref (gB G + v0)), (1, .int v1), (2, .int v2), (3, .int v3)] [] μ := by
  intro n
  induction n with
  | zero =>
    intro v0 v1 v2 v3 μ hf
    simp [fX0_stirOf_4] at hf
  | succ n ih =>
    intro v0 v1 v2 v3 μ hf
    rw [fX0_stirOf_4] at hf
    refine x_iload_n 3 dX0_stirOf_4 rfl ?_
    refine x_aload_n 0 dX0_stirOf_5 rfl ?_
    obtain ⟨x1, h2, hf⟩ := bnd hf
    refine x_getI wF_X0_34 (by decide) (by decide) rfl h2 dX0_stirOf_6 ?_
    refine x_icmp_ge 35 dX0_stirOf_9 rfl (fun c3 => ?_) (fun c3 => ?_)
    · rw [if_pos c3] at hf
      refine x_iload_n 2 dX0_stirOf_35 rfl ?_
      refine x_iload_n 1 dX0_stirOf_36 rfl ?_
      refine x_iconst (-1) dX0_stirOf_37 (by decide) ?_
      refine x_ixor dX0_stirOf_38 ?_
      refine x_iand dX0_stirOf_39 ?_
      obtain ⟨q4, h5, hf⟩ := bnd hf
      refine x_callSi (rest := []) [.int (v2 &&& (v1 ^^^ (-1)))] (tJ6_bitCount_0f7a4 (v2 &&& (v1 ^^^ (-1))) μ h5) wY_J6_bitCount_0f7a4 wT_J6_bitCount_0f7a4 wL_X0_129 rfl (Nat.le_of_ble_eq_true rfl) ⟨Nat.le_of_ble_eq_true rfl, Nat.le_of_ble_eq_true rfl⟩ ⟨Nat.le_refl _, Nat.le_refl _⟩ dX0_stirOf_40 ?_
      exact y_iret rfl rfl rfl hf dX0_stirOf_43
    · rw [if_neg c3] at hf
      refine x_iload_n 1 dX0_stirOf_12 rfl ?_
      refine x_iload_n 3 dX0_stirOf_13 rfl ?_
      refine x_ishr dX0_stirOf_14 ?_
      refine x_iconst 1 dX0_stirOf_15 (by decide) ?_
      refine x_iand dX0_stirOf_16 ?_
      refine x_iconst 1 dX0_stirOf_17 (by decide) ?_
      refine x_icmp_ne 29 dX0_stirOf_18 rfl (fun c6 => ?_) (fun c6 => ?_)
      · rw [if_neg c6] at hf
        refine x_iinc 3 (v3 + 1) [1, 2, 3, 0] dX0_stirOf_29 rfl rfl (by decide) (lv' := [(0, .ref (gB G + v0)), (1, .int v1), (2, .int v2), (3, .int (v3 + 1))]) rfl ?_
        refine x_goto 4 dX0_stirOf_32 rfl ?_
        exact ih v0 v1 v2 (v3 + 1) μ hf
      · rw [if_pos c6] at hf
        refine x_iload_n 2 dX0_stirOf_21 rfl ?_
        refine x_aload_n 0 dX0_stirOf_22 rfl ?_
        refine x_iload_n 3 dX0_stirOf_23 rfl ?_
        obtain ⟨q7, h8, hf⟩ := bnd hf
        refine x_callVi (rest := [.int v2]) [.int v3] (tX0_bitsAbove v0 v3 μ h8) wY_X0_bitsAbove wI_X0_bitsAbove wS_X0_bitsAbove wL_X0_126 (grd_p h8) (by decide) rfl rfl (Nat.le_of_ble_eq_true rfl) ⟨Nat.le_of_ble_eq_true rfl, Nat.le_of_ble_eq_true rfl⟩ ⟨Nat.le_refl _, Nat.le_refl _⟩ dX0_stirOf_24 ?_
        refine x_ior dX0_stirOf_27 ?_
        refine x_istore_n [1, 2, 0, 3] dX0_stirOf_28 (by decide) (lv' := [(0, .ref (gB G + v0)), (1, .int v1), (2, .int (v2 ||| q7.1)), (3, .int v3)]) rfl ?_
        refine x_iinc 3 (v3 + 1) [1, 2, 3, 0] dX0_stirOf_29 rfl rfl (by decide) (lv' := [(0, .ref (gB G + v0)), (1, .int v1), (2, .int (v2 ||| q7.1)), (3, .int (v3 + 1))]) rfl ?_
        refine x_goto 4 dX0_stirOf_32 rfl ?_
        exact ih v0 v1 (v2 ||| q7.1) (v3 + 1) q7.2 hf
def fX0_stirOf (a : Nat) (u1 : Int32) (μ : Mu) : Option (Int32 × Mu) := grd (isO 0 a μ) (fX0_stirOf_4  FU a u1 0 0 μ)
set_option maxRecDepth 20000 in
theorem tX0_stirOf {G : Gm} {l : Launch} {r : Int32 × Mu} (a : Nat) (u1 : Int32) (μ : Mu) (hf : fX0_stirOf a u1 μ = some r) : Mt G l yX0_stirOf cX0_stirOf 4 (some .int) (4) 0 0 [.ref (gB G + a), .int u1] μ (some (.int r.1)) r.2 := by
  rw [fX0_stirOf] at hf
  have hf := grd_v hf
  refine Mt.of (by decide) (Nat.le_of_ble_eq_true rfl) (fun p e s m args below meth c => ?_)
  show LX0_stirOf G p l e s m args below meth c r 0 [(0, .ref (gB G + a)), (1, .int u1)] [] μ
  refine x_iconst 0 dX0_stirOf_0 (by decide) ?_
  refine x_istore_n [1, 2, 0] dX0_stirOf_1 (by decide) (lv' := [(0, .ref (gB G + a)), (1, .int u1), (2, .int 0)]) rfl ?_
  refine x_iconst 0 dX0_stirOf_2 (by decide) ?_
  refine x_istore_n [1, 2, 3, 0] dX0_stirOf_3 (by decide) (lv' := [(0, .ref (gB G + a)), (1, .int u1), (2, .int 0), (3, .int 0)]) rfl ?_
  exact tX0_stirOf_4  FU a u1 0 0 μ hf
abbrev LX0_cheapestSet (G : Gm) (p : Program) (l : Launch) (e : Env) (s : State) (m : MethodId) (args : Array Value) (below : List Frame) (meth : Method) (c : Code) (r : Int32 × Mu) (pc : Nat) (lv : List (Nat × Value)) (st : List Value) (μ : Mu) : Prop := Lt G p l e { frames := 5, cells := 0, slots := 0, locals := 40 * (5) } s m args below meth c cX0_cheapestSet 6 RX0 (some .int) "cheapestSet" (MQ below (Qm G (some (.int r.1)) r.2 0) args s 0 0 (fA G)) 0 0 pc lv st μ
def fX0_cheapestSet_7 : Nat → Nat → Int32 → Int32 → Int32 → Int32 → Mu → Option (Int32 × Mu)
  | 0, _, _, _, _, _, _ => none
  | n + 1, v0, v1, v2, v3, v4, μ => (fX0_setCount v0  μ).bind fun q1 =>
    (if q1.1 ≤ v4 then
    some (v2, q1.2)
    else
    (fX0_worthOfSet v0 v4 q1.2).bind fun q4 =>
    (if q4.1 < v1 then
    (fX0_cheapestSet_7 n) v0 v1 v2 v3 (v4 + 1) q4.2
    else
    (fX0_allLie v0 v4 q4.2).bind fun q7 =>
    (if q7.1 = 0 then
    (fX0_cheapestSet_7 n) v0 v1 v2 v3 (v4 + 1) q7.2
    else
    (fX0_stirOf v0 v4 q7.2).bind fun q10 =>
    (fJ6_bitCount_0f7a4 v4 q10.2).bind fun q12 =>
    (if v2 = 0 then
    (fX0_cheapestSet_7 n) v0 v1 v4 ((q10.1 * 8) + q12.1) (v4 + 1) q12.2
    else
    (if v3 ≤ ((q10.1 * 8) + q12.1) then
    (fX0_cheapestSet_7 n) v0 v1 v2 v3 (v4 + 1) q12.2
    else
    (fX0_cheapestSet_7 n) v0 v1 v4 ((q10.1 * 8) + q12.1) (v4 + 1) q12.2)))))
set_option maxRecDepth 20000 in
theorem tX0_cheapestSet_7 {G : Gm} {p : Program} {l : Launch} {e : Env} {s : State} {m : MethodId} {args : Array Value} {below : List Frame} {meth : Method} {c : Code} {r : Int32 × Mu} : ∀ (n : Nat) (v0 : Nat) (v1 : Int32) (v2 : Int32) (v3 : Int32) (v4 : Int32) (μ : Mu), fX0_cheapestSet_7 n v0 v1 v2 v3 v4 μ = some r → LX0_cheapestSet G p l e s m args below meth c r 7 [(0, .ref (gB G + v0)), (1, .int v1), (2, .int v2), (3, .int v3), (4, .int v4)] [] μ := by
  intro n
  induction n with
  | zero =>
    intro v0 v1 v2 v3 v4 μ hf
    simp [fX0_cheapestSet_7] at hf
  | succ n ih =>
    intro v0 v1 v2 v3 v4 μ hf
    rw [fX0_cheapestSet_7] at hf
    refine x_iload 4 dX0_cheapestSet_7 rfl ?_
    refine x_aload_n 0 dX0_cheapestSet_9 rfl ?_
    obtain ⟨q1, h2, hf⟩ := bnd hf
    refine x_callVi (rest := [.int v4]) [] (tX0_setCount v0  μ h2) wY_X0_setCount wI_X0_setCount wS_X0_setCount wL_X0_134 (grd_p h2) (by decide) rfl rfl (Nat.le_of_ble_eq_true rfl) ⟨Nat.le_of_ble_eq_true rfl, Nat.le_of_ble_eq_true rfl⟩ ⟨Nat.le_refl _, Nat.le_refl _⟩ dX0_cheapestSet_10 ?_
    refine x_icmp_ge 74 dX0_cheapestSet_13 rfl (fun c3 => ?_) (fun c3 => ?_)
    · rw [if_pos c3] at hf
      refine x_iload_n 2 dX0_cheapestSet_74 rfl ?_
      exact y_iret rfl rfl rfl hf dX0_cheapestSet_75
    · rw [if_neg c3] at hf
      refine x_aload_n 0 dX0_cheapestSet_16 rfl ?_
      refine x_iload 4 dX0_cheapestSet_17 rfl ?_
      obtain ⟨q4, h5, hf⟩ := bnd hf
      refine x_callVi (rest := []) [.int v4] (tX0_worthOfSet v0 v4 q1.2 h5) wY_X0_worthOfSet wI_X0_worthOfSet wS_X0_worthOfSet wL_X0_138 (grd_p h5) (by decide) rfl rfl (Nat.le_of_ble_eq_true rfl) ⟨Nat.le_of_ble_eq_true rfl, Nat.le_of_ble_eq_true rfl⟩ ⟨Nat.le_refl _, Nat.le_refl _⟩ dX0_cheapestSet_19 ?_
      refine x_iload_n 1 dX0_cheapestSet_22 rfl ?_
      refine x_icmp_lt 68 dX0_cheapestSet_23 rfl (fun c6 => ?_) (fun c6 => ?_)
      · rw [if_pos c6] at hf
        refine x_iinc 4 (v4 + 1) [1, 2, 3, 4, 0] dX0_cheapestSet_68 rfl rfl (by decide) (lv' := [(0, .ref (gB G + v0)), (1, .int v1), (2, .int v2), (3, .int v3), (4, .int (v4 + 1))]) rfl ?_
        refine x_goto 7 dX0_cheapestSet_71 rfl ?_
        exact ih v0 v1 v2 v3 (v4 + 1) q4.2 hf
      · rw [if_neg c6] at hf
        refine x_aload_n 0 dX0_cheapestSet_26 rfl ?_
        refine x_iload 4 dX0_cheapestSet_27 rfl ?_
        obtain ⟨q7, h8, hf⟩ := bnd hf
        refine x_callVi (rest := []) [.int v4] (tX0_allLie v0 v4 q4.2 h8) wY_X0_allLie wI_X0_allLie wS_X0_allLie wL_X0_141 (grd_p h8) (by decide) rfl rfl (Nat.le_of_ble_eq_true rfl) ⟨Nat.le_of_ble_eq_true rfl, Nat.le_of_ble_eq_true rfl⟩ ⟨Nat.le_refl _, Nat.le_refl _⟩ dX0_cheapestSet_29 ?_
        refine x_if_eq 68 dX0_cheapestSet_32 rfl (fun c9 => ?_) (fun c9 => ?_)
        · rw [if_pos c9] at hf
          refine x_iinc 4 (v4 + 1) [1, 2, 3, 4, 0] dX0_cheapestSet_68 rfl rfl (by decide) (lv' := [(0, .ref (gB G + v0)), (1, .int v1), (2, .int v2), (3, .int v3), (4, .int (v4 + 1))]) rfl ?_
          refine x_goto 7 dX0_cheapestSet_71 rfl ?_
          exact ih v0 v1 v2 v3 (v4 + 1) q7.2 hf
        · rw [if_neg c9] at hf
          refine x_aload_n 0 dX0_cheapestSet_35 rfl ?_
          refine x_iload 4 dX0_cheapestSet_36 rfl ?_
          obtain ⟨q10, h11, hf⟩ := bnd hf
          refine x_callVi (rest := []) [.int v4] (tX0_stirOf v0 v4 q7.2 h11) wY_X0_stirOf wI_X0_stirOf wS_X0_stirOf wL_X0_144 (grd_p h11) (by decide) rfl rfl (Nat.le_of_ble_eq_true rfl) ⟨Nat.le_of_ble_eq_true rfl, Nat.le_of_ble_eq_true rfl⟩ ⟨Nat.le_refl _, Nat.le_refl _⟩ dX0_cheapestSet_38 ?_
          refine x_bipush 8 dX0_cheapestSet_41 (by decide) ?_
          refine x_imul dX0_cheapestSet_43 ?_
          refine x_iload 4 dX0_cheapestSet_44 rfl ?_
          obtain ⟨q12, h13, hf⟩ := bnd hf
          refine x_callSi (rest := [.int (q10.1 * 8)]) [.int v4] (tJ6_bitCount_0f7a4 v4 q10.2 h13) wY_J6_bitCount_0f7a4 wT_J6_bitCount_0f7a4 wL_X0_129 rfl (Nat.le_of_ble_eq_true rfl) ⟨Nat.le_of_ble_eq_true rfl, Nat.le_of_ble_eq_true rfl⟩ ⟨Nat.le_refl _, Nat.le_refl _⟩ dX0_cheapestSet_46 ?_
          refine x_iadd dX0_cheapestSet_49 ?_
          refine x_istore [1, 2, 3, 4, 5, 0] dX0_cheapestSet_50 (by decide) (lv' := [(0, .ref (gB G + v0)), (1, .int v1), (2, .int v2), (3, .int v3), (4, .int v4), (5, .int ((q10.1 * 8) + q12.1))]) rfl ?_
          refine x_iload_n 2 dX0_cheapestSet_52 rfl ?_
          refine x_if_eq 62 dX0_cheapestSet_53 rfl (fun c14 => ?_) (fun c14 => ?_)
          · rw [if_pos c14] at hf
            refine x_iload 5 dX0_cheapestSet_62 rfl ?_
            refine x_istore_n [1, 2, 3, 0, 4, 5] dX0_cheapestSet_64 (by decide) (lv' := [(0, .ref (gB G + v0)), (1, .int v1), (2, .int v2), (3, .int ((q10.1 * 8) + q12.1)), (4, .int v4), (5, .int ((q10.1 * 8) + q12.1))]) rfl ?_
            refine x_iload 4 dX0_cheapestSet_65 rfl ?_
            refine x_istore_n [1, 2, 0, 3, 4, 5] dX0_cheapestSet_67 (by decide) (lv' := [(0, .ref (gB G + v0)), (1, .int v1), (2, .int v4), (3, .int ((q10.1 * 8) + q12.1)), (4, .int v4), (5, .int ((q10.1 * 8) + q12.1))]) rfl ?_
            refine x_iinc 4 (v4 + 1) [1, 2, 3, 4, 0, 5] dX0_cheapestSet_68 rfl rfl (by decide) (lv' := [(0, .ref (gB G + v0)), (1, .int v1), (2, .int v4), (3, .int ((q10.1 * 8) + q12.1)), (4, .int (v4 + 1)), (5, .int ((q10.1 * 8) + q12.1))]) rfl ?_
            refine x_goto 7 dX0_cheapestSet_71 rfl ?_
            refine x_sub [0, 1, 2, 3, 4] (lv' := [(0, .ref (gB G + v0)), (1, .int v1), (2, .int v4), (3, .int ((q10.1 * 8) + q12.1)), (4, .int (v4 + 1))]) rfl ?_
            exact ih v0 v1 v4 ((q10.1 * 8) + q12.1) (v4 + 1) q12.2 hf
          · rw [if_neg c14] at hf
            refine x_iload 5 dX0_cheapestSet_56 rfl ?_
            refine x_iload_n 3 dX0_cheapestSet_58 rfl ?_
            refine x_icmp_ge 68 dX0_cheapestSet_59 rfl (fun c15 => ?_) (fun c15 => ?_)
            · rw [if_pos c15] at hf
              refine x_iinc 4 (v4 + 1) [1, 2, 3, 4, 0, 5] dX0_cheapestSet_68 rfl rfl (by decide) (lv' := [(0, .ref (gB G + v0)), (1, .int v1), (2, .int v2), (3, .int v3), (4, .int (v4 + 1)), (5, .int ((q10.1 * 8) + q12.1))]) rfl ?_
              refine x_goto 7 dX0_cheapestSet_71 rfl ?_
              refine x_sub [0, 1, 2, 3, 4] (lv' := [(0, .ref (gB G + v0)), (1, .int v1), (2, .int v2), (3, .int v3), (4, .int (v4 + 1))]) rfl ?_
              exact ih v0 v1 v2 v3 (v4 + 1) q12.2 hf
            · rw [if_neg c15] at hf
              refine x_iload 5 dX0_cheapestSet_62 rfl ?_
              refine x_istore_n [1, 2, 3, 0, 4, 5] dX0_cheapestSet_64 (by decide) (lv' := [(0, .ref (gB G + v0)), (1, .int v1), (2, .int v2), (3, .int ((q10.1 * 8) + q12.1)), (4, .int v4), (5, .int ((q10.1 * 8) + q12.1))]) rfl ?_
              refine x_iload 4 dX0_cheapestSet_65 rfl ?_
              refine x_istore_n [1, 2, 0, 3, 4, 5] dX0_cheapestSet_67 (by decide) (lv' := [(0, .ref (gB G + v0)), (1, .int v1), (2, .int v4), (3, .int ((q10.1 * 8) + q12.1)), (4, .int v4), (5, .int ((q10.1 * 8) + q12.1))]) rfl ?_
              refine x_iinc 4 (v4 + 1) [1, 2, 3, 4, 0, 5] dX0_cheapestSet_68 rfl rfl (by decide) (lv' := [(0, .ref (gB G + v0)), (1, .int v1), (2, .int v4), (3, .int ((q10.1 * 8) + q12.1)), (4, .int (v4 + 1)), (5, .int ((q10.1 * 8) + q12.1))]) rfl ?_
              refine x_goto 7 dX0_cheapestSet_71 rfl ?_
              refine x_sub [0, 1, 2, 3, 4] (lv' := [(0, .ref (gB G + v0)), (1, .int v1), (2, .int v4), (3, .int ((q10.1 * 8) + q12.1)), (4, .int (v4 + 1))]) rfl ?_
              exact ih v0 v1 v4 ((q10.1 * 8) + q12.1) (v4 + 1) q12.2 hf
def fX0_cheapestSet (a : Nat) (u1 : Int32) (μ : Mu) : Option (Int32 × Mu) := grd (isO 0 a μ) (fX0_cheapestSet_7  FU a u1 0 0 1 μ)
set_option maxRecDepth 20000 in
theorem tX0_cheapestSet {G : Gm} {l : Launch} {r : Int32 × Mu} (a : Nat) (u1 : Int32) (μ : Mu) (hf : fX0_cheapestSet a u1 μ = some r) : Mt G l yX0_cheapestSet cX0_cheapestSet 6 (some .int) (5) 0 0 [.ref (gB G + a), .int u1] μ (some (.int r.1)) r.2 := by
  rw [fX0_cheapestSet] at hf
  have hf := grd_v hf
  refine Mt.of (by decide) (Nat.le_of_ble_eq_true rfl) (fun p e s m args below meth c => ?_)
  show LX0_cheapestSet G p l e s m args below meth c r 0 [(0, .ref (gB G + a)), (1, .int u1)] [] μ
  refine x_iconst 0 dX0_cheapestSet_0 (by decide) ?_
  refine x_istore_n [1, 2, 0] dX0_cheapestSet_1 (by decide) (lv' := [(0, .ref (gB G + a)), (1, .int u1), (2, .int 0)]) rfl ?_
  refine x_iconst 0 dX0_cheapestSet_2 (by decide) ?_
  refine x_istore_n [1, 2, 3, 0] dX0_cheapestSet_3 (by decide) (lv' := [(0, .ref (gB G + a)), (1, .int u1), (2, .int 0), (3, .int 0)]) rfl ?_
  refine x_iconst 1 dX0_cheapestSet_4 (by decide) ?_
  refine x_istore [1, 2, 3, 4, 0] dX0_cheapestSet_5 (by decide) (lv' := [(0, .ref (gB G + a)), (1, .int u1), (2, .int 0), (3, .int 0), (4, .int 1)]) rfl ?_
  exact tX0_cheapestSet_7  FU a u1 0 0 1 μ hf
