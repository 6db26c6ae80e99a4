abbrev LX1_commonDivisor (G : Gm) (p : Program) (l : Launch) (e : Env) (s : State) (m : MethodId) (args : Array Value) (below : List Frame) (meth : Method) (c : Code) (r : Int32 × Mu) (pc : Nat) (lv : List (Nat × Value)) (st : List Value) (μ : Mu) : Prop := Lt G p l e { frames := 0, cells := 0, slots := 0, locals := 40 * (0) } s m args below meth c cX1_commonDivisor 6 RX1 (some .int) "commonDivisor" (MQ below (Qm G (some (.int r.1)) r.2 0) args s 0 0 (fA G)) 0 0 pc lv st μ
def fX1_commonDivisor_7 : Nat → Int32 → Int32 → Int32 → Mu → Option (Int32 × Mu)
  | 0, _, _, _, _ => none
  | n + 1, v2, v3, v4, μ => (if 50 ≤ v4 then
    some (v2, μ)
    else
    (if v3 = 0 then
    some (v2, μ)
    else
    (rmd v2 v3).bind fun x3 =>
    (fX1_commonDivisor_7 n) v3 x3 (v4 + 1) μ))
set_option maxRecDepth 20000 in
theorem tX1_commonDivisor_7 {G : Gm} {p : Program} {l : Launch} {e : Env} {s : State} {m : MethodId} {args : Array Value} {below : List Frame} {meth : Method} {c : Code} {r : Int32 × Mu} : ∀ (n : Nat) (v2 : Int32) (v3 : Int32) (v4 : Int32) (μ : Mu), fX1_commonDivisor_7 n v2 v3 v4 μ = some r → LX1_commonDivisor G p l e s m args below meth c r 7 [(2, .int v2), (3, .int v3), (4, .int v4)] [] μ := by
  intro n
  induction n with
  | zero =>
    intro v2 v3 v4 μ hf
    simp [fX1_commonDivisor_7] at hf
  | succ n ih =>
    intro v2 v3 v4 μ hf
    rw [fX1_commonDivisor_7] at hf
    refine x_iload 2 dX1_commonDivisor_7 rfl ?_
    refine x_bipush 50 dX1_commonDivisor_9 (by decide) ?_
    refine x_icmp_ge 34 dX1_commonDivisor_11 rfl (fun c1 => ?_) (fun c1 => ?_)
    · rw [if_pos c1] at hf
      refine x_iload_n 0 dX1_commonDivisor_34 rfl ?_
      exact y_iret rfl rfl rfl hf dX1_commonDivisor_35
    · rw [if_neg c1] at hf
      refine x_iload_n 1 dX1_commonDivisor_14 rfl ?_
      refine x_if_eq 34 dX1_commonDivisor_15 rfl (fun c2 => ?_) (fun c2 => ?_)
      · rw [if_pos c2] at hf
        refine x_iload_n 0 dX1_commonDivisor_34 rfl ?_
        exact y_iret rfl rfl rfl hf dX1_commonDivisor_35
      · rw [if_neg c2] at hf
        refine x_iload_n 0 dX1_commonDivisor_18 rfl ?_
        refine x_iload_n 1 dX1_commonDivisor_19 rfl ?_
        obtain ⟨x3, h4, hf⟩ := bnd hf
        refine x_irem h4 dX1_commonDivisor_20 ?_
        refine x_istore [1, 2, 3, 0] dX1_commonDivisor_21 (by decide) (lv' := [(2, .int v2), (3, .int v3), (4, .int v4), (5, .int x3)]) rfl ?_
        refine x_iload_n 1 dX1_commonDivisor_23 rfl ?_
        refine x_istore_n [0, 1, 2, 3] dX1_commonDivisor_24 (by decide) (lv' := [(2, .int v3), (3, .int v3), (4, .int v4), (5, .int x3)]) rfl ?_
        refine x_iload 3 dX1_commonDivisor_25 rfl ?_
        refine x_istore_n [1, 0, 2, 3] dX1_commonDivisor_27 (by decide) (lv' := [(2, .int v3), (3, .int x3), (4, .int v4), (5, .int x3)]) rfl ?_
        refine x_iinc 2 (v4 + 1) [1, 2, 0, 3] dX1_commonDivisor_28 rfl rfl (by decide) (lv' := [(2, .int v3), (3, .int x3), (4, .int (v4 + 1)), (5, .int x3)]) rfl ?_
        refine x_goto 7 dX1_commonDivisor_31 rfl ?_
        refine x_sub [0, 1, 2] (lv' := [(2, .int v3), (3, .int x3), (4, .int (v4 + 1))]) rfl ?_
        exact ih v3 x3 (v4 + 1) μ hf
def fX1_commonDivisor (u1 : Int32) (u2 : Int32) (μ : Mu) : Option (Int32 × Mu) := fX1_commonDivisor_7  FU u1 u2 0 μ
set_option maxRecDepth 20000 in
theorem tX1_commonDivisor {G : Gm} {l : Launch} {r : Int32 × Mu} (u1 : Int32) (u2 : Int32) (μ : Mu) (hf : fX1_commonDivisor u1 u2 μ = some r) : Mt G l yX1_commonDivisor cX1_commonDivisor 6 (some .int) (0) 0 0 [.int u1, .int u2] μ (some (.int r.1)) r.2 := by
  rw [fX1_commonDivisor] at hf
  refine Mt.of (by decide) (Nat.le_of_ble_eq_true rfl) (fun p e s m args below meth c => ?_)
  show LX1_commonDivisor G p l e s m args below meth c r 0 [(0, .int u1), (1, .int u2)] [] μ
  refine x_iload_n 0 dX1_commonDivisor_0 rfl ?_
  refine x_istore_n [1, 2, 0] dX1_commonDivisor_1 (by decide) (lv' := [(0, .int u1), (1, .int u2), (2, .int u1)]) rfl ?_
  refine x_iload_n 1 dX1_commonDivisor_2 rfl ?_
  refine x_istore_n [1, 2, 3, 0] dX1_commonDivisor_3 (by decide) (lv' := [(0, .int u1), (1, .int u2), (2, .int u1), (3, .int u2)]) rfl ?_
  refine x_iconst 0 dX1_commonDivisor_4 (by decide) ?_
  refine x_istore [1, 2, 3, 4, 0] dX1_commonDivisor_5 (by decide) (lv' := [(0, .int u1), (1, .int u2), (2, .int u1), (3, .int u2), (4, .int 0)]) rfl ?_
  refine x_sub [2, 3, 4] (lv' := [(2, .int u1), (3, .int u2), (4, .int 0)]) rfl ?_
  exact tX1_commonDivisor_7  FU u1 u2 0 μ hf
abbrev LX1_spread (G : Gm) (p : Program) (l : Launch) (e : Env) (s : State) (m : MethodId) (args : Array Value) (below : List Frame) (meth : Method) (c : Code) (r : Mu) (pc : Nat) (lv : List (Nat × Value)) (st : List Value) (μ : Mu) : Prop := Lt G p l e { frames := 0, cells := 0, slots := 0, locals := 40 * (0) } s m args below meth c cX1_spread 5 RX1 none "spread" (MQ below (Qm G none r 0) args s 0 0 (fA G)) 0 0 pc lv st μ
def fX1_spread_40 (k31 : Nat → Int32 → Int32 → Int32 → Mu → Option (Mu)) : Nat → Nat → Int32 → Int32 → Int32 → Int32 → Mu → Option (Mu)
  | 0, _, _, _, _, _, _ => none
  | n + 1, v0, v1, v2, v3, v4, μ => (if v4 ≤ 0 then
    (gR 1 v0 2 μ).bind fun x4 =>
    (aI 8 x4 0 μ).bind fun x6 =>
    (bI 8 x4 0 (x6 * (10 - v2)) μ).bind fun m8 =>
    k31 v0 v1 v2 (v3 + 1) m8
    else
    (gR 1 v0 2 μ).bind fun x10 =>
    (gR 1 v0 2 μ).bind fun x12 =>
    (aI 8 x12 v4 μ).bind fun x14 =>
    (gR 1 v0 2 μ).bind fun x16 =>
    (aI 8 x16 (v4 - 1) μ).bind fun x18 =>
    (bI 8 x10 v4 ((x14 * (10 - v2)) + (x18 * v2)) μ).bind fun m20 =>
    (fX1_spread_40 k31 n) v0 v1 v2 v3 (v4 + (-1)) m20)
set_option maxRecDepth 20000 in
theorem tX1_spread_40 {G : Gm} {p : Program} {l : Launch} {e : Env} {s : State} {m : MethodId} {args : Array Value} {below : List Frame} {meth : Method} {c : Code} {r : Mu} {k31 : Nat → Int32 → Int32 → Int32 → Mu → Option (Mu)} (hk31 : ∀ (v0 : Nat) (v1 : Int32) (v2 : Int32) (v3 : Int32) (μ : Mu), k31 v0 v1 v2 v3 μ = some r → LX1_spread G p l e s m args below meth c r 31 [(0, .ref (gB G + v0)), (1, .int v1), (2, .int v2), (3, .int v3)] [] μ) : ∀ (n : Nat) (v0 : Nat) (v1 : Int32) (v2 : Int32) (v3 : Int32) (v4 : Int32) (μ : Mu), fX1_spread_40 k31 n v0 v1 v2 v3 v4 μ = some r → LX1_spread G p l e s m args below meth c r 40 [(0, .ref (gB G + v0)), (1, .int v1), (2, .int v2), (3, .int v3), (4, .int v4)] [] μ := by
  intro n
  induction n with
  | zero =>
    intro v0 v1 v2 v3 v4 μ hf
    simp [fX1_spread_40] at hf
  | succ n ih =>
    intro v0 v1 v2 v3 v4 μ hf
    rw [fX1_spread_40] at hf
    refine x_iload 4 dX1_spread_40 rfl ?_
    refine x_if_le 82 dX1_spread_42 rfl (fun c3 => ?_) (fun c3 => ?_)
    · rw [if_pos c3] at hf
      refine x_aload_n 0 dX1_spread_82 rfl ?_
      obtain ⟨x4, h5, hf⟩ := bnd hf
      refine x_getR wF_X1_9 (by decide) (by decide) rfl h5 dX1_spread_83 ?_
      refine x_iconst 0 dX1_spread_86 (by decide) ?_
      refine x_dup2 dX1_spread_87 rfl rfl ?_
      obtain ⟨x6, h7, hf⟩ := bnd hf
      refine x_iald h7 dX1_spread_88 ?_
      refine x_bipush 10 dX1_spread_89 (by decide) ?_
      refine x_iload_n 2 dX1_spread_91 rfl ?_
      refine x_isub dX1_spread_92 ?_
      refine x_imul dX1_spread_93 ?_
      obtain ⟨m8, h9, hf⟩ := bnd hf
      refine x_iast h9 dX1_spread_94 ?_
      refine x_iinc 3 (v3 + 1) [1, 2, 3, 0, 4] dX1_spread_95 rfl rfl (by decide) (lv' := [(0, .ref (gB G + v0)), (1, .int v1), (2, .int v2), (3, .int (v3 + 1)), (4, .int v4)]) rfl ?_
      refine x_goto 31 dX1_spread_98 rfl ?_
      refine x_sub [0, 1, 2, 3] (lv' := [(0, .ref (gB G + v0)), (1, .int v1), (2, .int v2), (3, .int (v3 + 1))]) rfl ?_
      exact hk31 v0 v1 v2 (v3 + 1) m8 hf
    · rw [if_neg c3] at hf
      refine x_aload_n 0 dX1_spread_45 rfl ?_
      obtain ⟨x10, h11, hf⟩ := bnd hf
      refine x_getR wF_X1_9 (by decide) (by decide) rfl h11 dX1_spread_46 ?_
      refine x_iload 4 dX1_spread_49 rfl ?_
      refine x_aload_n 0 dX1_spread_51 rfl ?_
      obtain ⟨x12, h13, hf⟩ := bnd hf
      refine x_getR wF_X1_9 (by decide) (by decide) rfl h13 dX1_spread_52 ?_
      refine x_iload 4 dX1_spread_55 rfl ?_
      obtain ⟨x14, h15, hf⟩ := bnd hf
      refine x_iald h15 dX1_spread_57 ?_
      refine x_bipush 10 dX1_spread_58 (by decide) ?_
      refine x_iload_n 2 dX1_spread_60 rfl ?_
      refine x_isub dX1_spread_61 ?_
      refine x_imul dX1_spread_62 ?_
      refine x_aload_n 0 dX1_spread_63 rfl ?_
      obtain ⟨x16, h17, hf⟩ := bnd hf
      refine x_getR wF_X1_9 (by decide) (by decide) rfl h17 dX1_spread_64 ?_
      refine x_iload 4 dX1_spread_67 rfl ?_
      refine x_iconst 1 dX1_spread_69 (by decide) ?_
      refine x_isub dX1_spread_70 ?_
      obtain ⟨x18, h19, hf⟩ := bnd hf
      refine x_iald h19 dX1_spread_71 ?_
      refine x_iload_n 2 dX1_spread_72 rfl ?_
      refine x_imul dX1_spread_73 ?_
      refine x_iadd dX1_spread_74 ?_
      obtain ⟨m20, h21, hf⟩ := bnd hf
      refine x_iast h21 dX1_spread_75 ?_
      refine x_iinc 4 (v4 + (-1)) [1, 2, 3, 4, 0] dX1_spread_76 rfl rfl (by decide) (lv' := [(0, .ref (gB G + v0)), (1, .int v1), (2, .int v2), (3, .int v3), (4, .int (v4 + (-1)))]) rfl ?_
      refine x_goto 40 dX1_spread_79 rfl ?_
      exact ih v0 v1 v2 v3 (v4 + (-1)) m20 hf
def fX1_spread_31 : Nat → Nat → Int32 → Int32 → Int32 → Mu → Option (Mu)
  | 0, _, _, _, _, _ => none
  | n + 1, v0, v1, v2, v3, μ => (if v1 ≤ v3 then
    some μ
    else
    fX1_spread_40 (fX1_spread_31 n) FU v0 v1 v2 v3 8 μ)
set_option maxRecDepth 20000 in
theorem tX1_spread_31 {G : Gm} {p : Program} {l : Launch} {e : Env} {s : State} {m : MethodId} {args : Array Value} {below : List Frame} {meth : Method} {c : Code} {r : Mu} : ∀ (n : Nat) (v0 : Nat) (v1 : Int32) (v2 : Int32) (v3 : Int32) (μ : Mu), fX1_spread_31 n v0 v1 v2 v3 μ = some r → LX1_spread G p l e s m args below meth c r 31 [(0, .ref (gB G + v0)), (1, .int v1), (2, .int v2), (3, .int v3)] [] μ := by
  intro n
  induction n with
  | zero =>
    intro v0 v1 v2 v3 μ hf
    simp [fX1_spread_31] at hf
  | succ n ih =>
    intro v0 v1 v2 v3 μ hf
    rw [fX1_spread_31] at hf
    refine x_iload_n 3 dX1_spread_31 rfl ?_
    refine x_iload_n 1 dX1_spread_32 rfl ?_
    refine x_icmp_ge 101 dX1_spread_33 rfl (fun c2 => ?_) (fun c2 => ?_)
    · rw [if_pos c2] at hf
      exact y_vret rfl rfl rfl hf dX1_spread_101
    · rw [if_neg c2] at hf
      refine x_bipush 8 dX1_spread_36 (by decide) ?_
      refine x_istore [1, 2, 3, 4, 0] dX1_spread_38 (by decide) (lv' := [(0, .ref (gB G + v0)), (1, .int v1), (2, .int v2), (3, .int v3), (4, .int 8)]) rfl ?_
      exact tX1_spread_40 ih FU v0 v1 v2 v3 8 μ hf
def fX1_spread_2 : Nat → Nat → Int32 → Int32 → Int32 → Mu → Option (Mu)
  | 0, _, _, _, _, _ => none
  | n + 1, v0, v1, v2, v3, μ => (if 8 < v3 then
    fX1_spread_31  FU v0 v1 v2 0 μ
    else
    (gR 1 v0 2 μ).bind fun x22 =>
    (if v3 = 0 then
    (bI 8 x22 v3 1 μ).bind fun m27 =>
    (fX1_spread_2 n) v0 v1 v2 (v3 + 1) m27
    else
    (bI 8 x22 v3 0 μ).bind fun m25 =>
    (fX1_spread_2 n) v0 v1 v2 (v3 + 1) m25))
set_option maxRecDepth 20000 in
theorem tX1_spread_2 {G : Gm} {p : Program} {l : Launch} {e : Env} {s : State} {m : MethodId} {args : Array Value} {below : List Frame} {meth : Method} {c : Code} {r : Mu} : ∀ (n : Nat) (v0 : Nat) (v1 : Int32) (v2 : Int32) (v3 : Int32) (μ : Mu), fX1_spread_2 n v0 v1 v2 v3 μ = some r → LX1_spread G p l e s m args below meth c r 2 [(0, .ref (gB G + v0)), (1, .int v1), (2, .int v2), (3, .int v3)] [] μ := by
  intro n
  induction n with
  | zero =>
    intro v0 v1 v2 v3 μ hf
    simp [fX1_spread_2] at hf
  | succ n ih =>
    intro v0 v1 v2 v3 μ hf
    rw [fX1_spread_2] at hf
    refine x_iload_n 3 dX1_spread_2 rfl ?_
    refine x_bipush 8 dX1_spread_3 (by decide) ?_
    refine x_icmp_gt 29 dX1_spread_5 rfl (fun c1 => ?_) (fun c1 => ?_)
    · rw [if_pos c1] at hf
      refine x_iconst 0 dX1_spread_29 (by decide) ?_
      refine x_istore_n [1, 2, 3, 0] dX1_spread_30 (by decide) (lv' := [(0, .ref (gB G + v0)), (1, .int v1), (2, .int v2), (3, .int 0)]) rfl ?_
      exact tX1_spread_31  FU v0 v1 v2 0 μ hf
    · rw [if_neg c1] at hf
      refine x_aload_n 0 dX1_spread_8 rfl ?_
      obtain ⟨x22, h23, hf⟩ := bnd hf
      refine x_getR wF_X1_9 (by decide) (by decide) rfl h23 dX1_spread_9 ?_
      refine x_iload_n 3 dX1_spread_12 rfl ?_
      refine x_iload_n 3 dX1_spread_13 rfl ?_
      refine x_if_ne 21 dX1_spread_14 rfl (fun c24 => ?_) (fun c24 => ?_)
      · rw [if_neg c24] at hf
        refine x_iconst 0 dX1_spread_21 (by decide) ?_
        obtain ⟨m25, h26, hf⟩ := bnd hf
        refine x_iast h26 dX1_spread_22 ?_
        refine x_iinc 3 (v3 + 1) [1, 2, 3, 0] dX1_spread_23 rfl rfl (by decide) (lv' := [(0, .ref (gB G + v0)), (1, .int v1), (2, .int v2), (3, .int (v3 + 1))]) rfl ?_
        refine x_goto 2 dX1_spread_26 rfl ?_
        exact ih v0 v1 v2 (v3 + 1) m25 hf
      · rw [if_pos c24] at hf
        refine x_iconst 1 dX1_spread_17 (by decide) ?_
        refine x_goto 22 dX1_spread_18 rfl ?_
        obtain ⟨m27, h28, hf⟩ := bnd hf
        refine x_iast h28 dX1_spread_22 ?_
        refine x_iinc 3 (v3 + 1) [1, 2, 3, 0] dX1_spread_23 rfl rfl (by decide) (lv' := [(0, .ref (gB G + v0)), (1, .int v1), (2, .int v2), (3, .int (v3 + 1))]) rfl ?_
        refine x_goto 2 dX1_spread_26 rfl ?_
        exact ih v0 v1 v2 (v3 + 1) m27 hf
def fX1_spread (a : Nat) (u1 : Int32) (u2 : Int32) (μ : Mu) : Option (Mu) := grd (isO 1 a μ) (fX1_spread_2  FU a u1 u2 0 μ)
set_option maxRecDepth 20000 in
theorem tX1_spread {G : Gm} {l : Launch} {r : Mu} (a : Nat) (u1 : Int32) (u2 : Int32) (μ : Mu) (hf : fX1_spread a u1 u2 μ = some r) : Mt G l yX1_spread cX1_spread 5 none (0) 0 0 [.ref (gB G + a), .int u1, .int u2] μ none r := by
  rw [fX1_spread] at hf
  have hf := grd_v hf
  refine Mt.of (by decide) (Nat.le_of_ble_eq_true rfl) (fun p e s m args below meth c => ?_)
  show LX1_spread G p l e s m args below meth c r 0 [(0, .ref (gB G + a)), (1, .int u1), (2, .int u2)] [] μ
  refine x_iconst 0 dX1_spread_0 (by decide) ?_
  refine x_istore_n [1, 2, 3, 0] dX1_spread_1 (by decide) (lv' := [(0, .ref (gB G + a)), (1, .int u1), (2, .int u2), (3, .int 0)]) rfl ?_
  exact tX1_spread_2  FU a u1 u2 0 μ hf
abbrev LX1_reckon (G : Gm) (p : Program) (l : Launch) (e : Env) (s : State) (m : MethodId) (args : Array Value) (below : List Frame) (meth : Method) (c : Code) (r : Mu) (pc : Nat) (lv : List (Nat × Value)) (st : List Value) (μ : Mu) : Prop := Lt G p l e { frames := 1, cells := 0, slots := 0, locals := 40 * (1) } s m args below meth c cX1_reckon 7 RX1 none "reckon" (MQ below (Qm G none r 0) args s 0 0 (fA G)) 0 0 pc lv st μ
def fX1_reckon_82 (v0 : Nat) (v5 : Int32) (v6 : Int32) (s0 : Nat) (s1 : Int32) (μ : Mu) : Option (Mu) := (pI 1 s0 0 s1 μ).bind fun m7 =>
    (if v6 ≤ 0 then
    (pI 1 v0 1 1 m7).bind fun m10 =>
    some m10
    else
    (dvd v5 v6).bind fun x12 =>
    (pI 1 v0 1 x12 m7).bind fun m14 =>
    some m14)
set_option maxRecDepth 20000 in
theorem tX1_reckon_82 {G : Gm} {p : Program} {l : Launch} {e : Env} {s : State} {m : MethodId} {args : Array Value} {below : List Frame} {meth : Method} {c : Code} {r : Mu} (v0 : Nat) (v5 : Int32) (v6 : Int32) (s0 : Nat) (s1 : Int32) (μ : Mu) (hf : fX1_reckon_82 v0 v5 v6 s0 s1 μ = some r) : LX1_reckon G p l e s m args below meth c r 82 [(0, .ref (gB G + v0)), (5, .int v5), (6, .int v6)] [.int s1, .ref (gB G + s0)] μ := by
  rw [fX1_reckon_82] at hf
  obtain ⟨m7, h8, hf⟩ := bnd hf
  refine x_putI wF_X1_23 (by decide) (by decide) rfl rfl h8 dX1_reckon_82 ?_
  refine x_aload_n 0 dX1_reckon_85 rfl ?_
  refine x_iload 2 dX1_reckon_86 rfl ?_
  refine x_if_le 99 dX1_reckon_88 rfl (fun c9 => ?_) (fun c9 => ?_)
  · rw [if_pos c9] at hf
    refine x_iconst 1 dX1_reckon_99 (by decide) ?_
    obtain ⟨m10, h11, hf⟩ := bnd hf
    refine x_putI wF_X1_27 (by decide) (by decide) rfl rfl h11 dX1_reckon_100 ?_
    exact y_vret rfl rfl rfl hf dX1_reckon_103
  · rw [if_neg c9] at hf
    refine x_iload 1 dX1_reckon_91 rfl ?_
    refine x_iload 2 dX1_reckon_93 rfl ?_
    obtain ⟨x12, h13, hf⟩ := bnd hf
    refine x_idiv h13 dX1_reckon_95 ?_
    refine x_goto 100 dX1_reckon_96 rfl ?_
    obtain ⟨m14, h15, hf⟩ := bnd hf
    refine x_putI wF_X1_27 (by decide) (by decide) rfl rfl h15 dX1_reckon_100 ?_
    exact y_vret rfl rfl rfl hf dX1_reckon_103
def fX1_reckon_15 : Nat → Nat → Int32 → Int32 → Int32 → Int32 → Mu → Option (Mu)
  | 0, _, _, _, _, _, _ => none
  | n + 1, v0, v3, v4, v5, v6, μ => (if 8 < v6 then
    (fX1_commonDivisor v5 v4 μ).bind fun q4 =>
    (if q4.1 ≤ 0 then
    fX1_reckon_82  v0 v5 q4.1 v0 0 q4.2
    else
    (dvd v4 q4.1).bind fun x16 =>
    fX1_reckon_82  v0 v5 q4.1 v0 x16 q4.2)
    else
    (gR 1 v0 2 μ).bind fun x18 =>
    (aI 8 x18 v6 μ).bind fun x20 =>
    (if v3 < v6 then
    (fX1_reckon_15 n) v0 v3 v4 (v5 + x20) (v6 + 1) μ
    else
    (gR 1 v0 2 μ).bind fun x23 =>
    (aI 8 x23 v6 μ).bind fun x25 =>
    (fX1_reckon_15 n) v0 v3 (v4 + x25) (v5 + x20) (v6 + 1) μ))
set_option maxRecDepth 20000 in
theorem tX1_reckon_15 {G : Gm} {p : Program} {l : Launch} {e : Env} {s : State} {m : MethodId} {args : Array Value} {below : List Frame} {meth : Method} {c : Code} {r : Mu} : ∀ (n : Nat) (v0 : Nat) (v3 : Int32) (v4 : Int32) (v5 : Int32) (v6 : Int32) (μ : Mu), fX1_reckon_15 n v0 v3 v4 v5 v6 μ = some r → LX1_reckon G p l e s m args below meth c r 15 [(0, .ref (gB G + v0)), (3, .int v3), (4, .int v4), (5, .int v5), (6, .int v6)] [] μ := by
  intro n
  induction n with
  | zero =>
    intro v0 v3 v4 v5 v6 μ hf
    simp [fX1_reckon_15] at hf
  | succ n ih =>
    intro v0 v3 v4 v5 v6 μ hf
    rw [fX1_reckon_15] at hf
    refine x_iload 4 dX1_reckon_15 rfl ?_
    refine x_bipush 8 dX1_reckon_17 (by decide) ?_
    refine x_icmp_gt 58 dX1_reckon_19 rfl (fun c3 => ?_) (fun c3 => ?_)
    · rw [if_pos c3] at hf
      refine x_iload 3 dX1_reckon_58 rfl ?_
      refine x_iload 2 dX1_reckon_60 rfl ?_
      obtain ⟨q4, h5, hf⟩ := bnd hf
      refine x_callSi (rest := []) [.int v5, .int v4] (tX1_commonDivisor v5 v4 μ h5) wY_X1_commonDivisor wT_X1_commonDivisor wL_X1_19 rfl (Nat.le_of_ble_eq_true rfl) ⟨Nat.le_of_ble_eq_true rfl, Nat.le_of_ble_eq_true rfl⟩ ⟨Nat.le_refl _, Nat.le_refl _⟩ dX1_reckon_62 ?_
      refine x_istore [1, 2, 3, 4, 0] dX1_reckon_65 (by decide) (lv' := [(0, .ref (gB G + v0)), (3, .int v3), (4, .int v4), (5, .int v5), (6, .int q4.1)]) rfl ?_
      refine x_aload_n 0 dX1_reckon_67 rfl ?_
      refine x_iload 4 dX1_reckon_68 rfl ?_
      refine x_if_le 81 dX1_reckon_70 rfl (fun c6 => ?_) (fun c6 => ?_)
      · rw [if_pos c6] at hf
        refine x_iconst 0 dX1_reckon_81 (by decide) ?_
        refine x_sub [0, 3, 4] (lv' := [(0, .ref (gB G + v0)), (5, .int v5), (6, .int q4.1)]) rfl ?_
        exact tX1_reckon_82  v0 v5 q4.1 v0 0 q4.2 hf
      · rw [if_neg c6] at hf
        refine x_iload 2 dX1_reckon_73 rfl ?_
        refine x_iload 4 dX1_reckon_75 rfl ?_
        obtain ⟨x16, h17, hf⟩ := bnd hf
        refine x_idiv h17 dX1_reckon_77 ?_
        refine x_goto 82 dX1_reckon_78 rfl ?_
        refine x_sub [0, 3, 4] (lv' := [(0, .ref (gB G + v0)), (5, .int v5), (6, .int q4.1)]) rfl ?_
        exact tX1_reckon_82  v0 v5 q4.1 v0 x16 q4.2 hf
    · rw [if_neg c3] at hf
      refine x_iload 3 dX1_reckon_22 rfl ?_
      refine x_aload_n 0 dX1_reckon_24 rfl ?_
      obtain ⟨x18, h19, hf⟩ := bnd hf
      refine x_getR wF_X1_9 (by decide) (by decide) rfl h19 dX1_reckon_25 ?_
      refine x_iload 4 dX1_reckon_28 rfl ?_
      obtain ⟨x20, h21, hf⟩ := bnd hf
      refine x_iald h21 dX1_reckon_30 ?_
      refine x_iadd dX1_reckon_31 ?_
      refine x_istore [1, 2, 3, 0, 4] dX1_reckon_32 (by decide) (lv' := [(0, .ref (gB G + v0)), (3, .int v3), (4, .int v4), (5, .int (v5 + x20)), (6, .int v6)]) rfl ?_
      refine x_iload 4 dX1_reckon_34 rfl ?_
      refine x_iload_n 1 dX1_reckon_36 rfl ?_
      refine x_icmp_gt 52 dX1_reckon_37 rfl (fun c22 => ?_) (fun c22 => ?_)
      · rw [if_pos c22] at hf
        refine x_iinc 4 (v6 + 1) [1, 2, 3, 4, 0] dX1_reckon_52 rfl rfl (by decide) (lv' := [(0, .ref (gB G + v0)), (3, .int v3), (4, .int v4), (5, .int (v5 + x20)), (6, .int (v6 + 1))]) rfl ?_
        refine x_goto 15 dX1_reckon_55 rfl ?_
        exact ih v0 v3 v4 (v5 + x20) (v6 + 1) μ hf
      · rw [if_neg c22] at hf
        refine x_iload 2 dX1_reckon_40 rfl ?_
        refine x_aload_n 0 dX1_reckon_42 rfl ?_
        obtain ⟨x23, h24, hf⟩ := bnd hf
        refine x_getR wF_X1_9 (by decide) (by decide) rfl h24 dX1_reckon_43 ?_
        refine x_iload 4 dX1_reckon_46 rfl ?_
        obtain ⟨x25, h26, hf⟩ := bnd hf
        refine x_iald h26 dX1_reckon_48 ?_
        refine x_iadd dX1_reckon_49 ?_
        refine x_istore [1, 2, 0, 3, 4] dX1_reckon_50 (by decide) (lv' := [(0, .ref (gB G + v0)), (3, .int v3), (4, .int (v4 + x25)), (5, .int (v5 + x20)), (6, .int v6)]) rfl ?_
        refine x_iinc 4 (v6 + 1) [1, 2, 3, 4, 0] dX1_reckon_52 rfl rfl (by decide) (lv' := [(0, .ref (gB G + v0)), (3, .int v3), (4, .int (v4 + x25)), (5, .int (v5 + x20)), (6, .int (v6 + 1))]) rfl ?_
        refine x_goto 15 dX1_reckon_55 rfl ?_
        exact ih v0 v3 (v4 + x25) (v5 + x20) (v6 + 1) μ hf
def fX1_reckon (a : Nat) (u1 : Int32) (u2 : Int32) (u3 : Int32) (μ : Mu) : Option (Mu) := grd (isO 1 a μ) ((fX1_spread a u1 u2 μ).bind fun q1 =>
    fX1_reckon_15  FU a u3 0 0 0 q1)
set_option maxRecDepth 20000 in
theorem tX1_reckon {G : Gm} {l : Launch} {r : Mu} (a : Nat) (u1 : Int32) (u2 : Int32) (u3 : Int32) (μ : Mu) (hf : fX1_reckon a u1 u2 u3 μ = some r) : Mt G l yX1_reckon cX1_reckon 7 none (1) 0 0 [.ref (gB G + a), .int u1, .int u2, .int u3] μ none r := by
  rw [fX1_reckon] at hf
  have hf := grd_v hf
  refine Mt.of (by decide) (Nat.le_of_ble_eq_true rfl) (fun p e s m args below meth c => ?_)
  show LX1_reckon G p l e s m args below meth c r 0 [(0, .ref (gB G + a)), (1, .int u1), (2, .int u2), (3, .int u3)] [] μ
  refine x_aload_n 0 dX1_reckon_0 rfl ?_
  refine x_iload_n 1 dX1_reckon_1 rfl ?_
  refine x_iload_n 2 dX1_reckon_2 rfl ?_
  obtain ⟨q1, h2, hf⟩ := bnd hf
  refine x_callVv (rest := []) [.int u1, .int u2] (tX1_spread a u1 u2 μ h2) wY_X1_spread wI_X1_spread wS_X1_spread wL_X1_15 (grd_p h2) (by decide) rfl rfl (Nat.le_of_ble_eq_true rfl) ⟨Nat.le_of_ble_eq_true rfl, Nat.le_of_ble_eq_true rfl⟩ ⟨Nat.le_refl _, Nat.le_refl _⟩ dX1_reckon_3 ?_
  refine x_iconst 0 dX1_reckon_6 (by decide) ?_
  refine x_istore [1, 2, 3, 4, 0] dX1_reckon_7 (by decide) (lv' := [(0, .ref (gB G + a)), (1, .int u1), (2, .int u2), (3, .int u3), (4, .int 0)]) rfl ?_
  refine x_iconst 0 dX1_reckon_9 (by decide) ?_
  refine x_istore [1, 2, 3, 4, 5, 0] dX1_reckon_10 (by decide) (lv' := [(0, .ref (gB G + a)), (1, .int u1), (2, .int u2), (3, .int u3), (4, .int 0), (5, .int 0)]) rfl ?_
  refine x_iconst 0 dX1_reckon_12 (by decide) ?_
  refine x_istore [1, 2, 3, 4, 5, 6, 0] dX1_reckon_13 (by decide) (lv' := [(0, .ref (gB G + a)), (1, .int u1), (2, .int u2), (3, .int u3), (4, .int 0), (5, .int 0), (6, .int 0)]) rfl ?_
  refine x_sub [0, 3, 4, 5, 6] (lv' := [(0, .ref (gB G + a)), (3, .int u3), (4, .int 0), (5, .int 0), (6, .int 0)]) rfl ?_
  exact tX1_reckon_15  FU a u3 0 0 0 q1 hf
abbrev LX3_add (G : Gm) (p : Program) (l : Launch) (e : Env) (s : State) (m : MethodId) (args : Array Value) (below : List Frame) (meth : Method) (c : Code) (r : Int32 × Mu) (pc : Nat) (lv : List (Nat × Value)) (st : List Value) (μ : Mu) : Prop := Lt G p l e { frames := 0, cells := 0, slots := 0, locals := 40 * (0) } s m args below meth c cX3_add 2 RX3 (some .boolean) "add" (MQ below (Qm G (some (.int r.1)) r.2 0) args s 0 0 (fA G)) 0 0 pc lv st μ
def fX3_add (a : Nat) (u1 : Int32) (μ : Mu) : Option (Int32 × Mu) := grd (isO 3 a μ) ((gI 3 a 0 μ).bind fun x1 =>
    (if x1 < 200 then
    (gR 3 a 1 μ).bind fun x4 =>
    (gI 3 a 0 μ).bind fun x6 =>
    (bI 9 x4 x6 ((u1.toUInt32 % 65536).toInt32) μ).bind fun m8 =>
    (gI 3 a 0 m8).bind fun x10 =>
    (pI 3 a 0 (x10 + 1) m8).bind fun m12 =>
    some (1, m12)
    else
    some (0, μ)))
set_option maxRecDepth 20000 in
theorem tX3_add {G : Gm} {l : Launch} {r : Int32 × Mu} (a : Nat) (u1 : Int32) (μ : Mu) (hf : fX3_add a u1 μ = some r) : Mt G l yX3_add cX3_add 2 (some .boolean) (0) 0 0 [.ref (gB G + a), .int u1] μ (some (.int r.1)) r.2 := by
  rw [fX3_add] at hf
  have hf := grd_v hf
  refine Mt.of (by decide) (Nat.le_of_ble_eq_true rfl) (fun p e s m args below meth c => ?_)
  show LX3_add G p l e s m args below meth c r 0 [(0, .ref (gB G + a)), (1, .int u1)] [] μ
  refine x_aload_n 0 dX3_add_0 rfl ?_
  obtain ⟨x1, h2, hf⟩ := bnd hf
  refine x_getI wF_X3_19 (by decide) (by decide) rfl h2 dX3_add_1 ?_
  refine x_sipush 200 dX3_add_4 (by decide) ?_
  refine x_icmp_lt 12 dX3_add_7 rfl (fun c3 => ?_) (fun c3 => ?_)
  · rw [if_pos c3] at hf
    refine x_aload_n 0 dX3_add_12 rfl ?_
    obtain ⟨x4, h5, hf⟩ := bnd hf
    refine x_getR wF_X3_11 (by decide) (by decide) rfl h5 dX3_add_13 ?_
    refine x_aload_n 0 dX3_add_16 rfl ?_
    obtain ⟨x6, h7, hf⟩ := bnd hf
    refine x_getI wF_X3_19 (by decide) (by decide) rfl h7 dX3_add_17 ?_
    refine x_iload_n 1 dX3_add_20 rfl ?_
    refine x_i2c dX3_add_21 ?_
    obtain ⟨m8, h9, hf⟩ := bnd hf
    refine x_cast h9 dX3_add_22 ?_
    refine x_aload_n 0 dX3_add_23 rfl ?_
    refine x_dup dX3_add_24 rfl ?_
    obtain ⟨x10, h11, hf⟩ := bnd hf
    refine x_getI wF_X3_19 (by decide) (by decide) rfl h11 dX3_add_25 ?_
    refine x_iconst 1 dX3_add_28 (by decide) ?_
    refine x_iadd dX3_add_29 ?_
    obtain ⟨m12, h13, hf⟩ := bnd hf
    refine x_putI wF_X3_19 (by decide) (by decide) rfl rfl h13 dX3_add_30 ?_
    refine x_iconst 1 dX3_add_33 (by decide) ?_
    exact y_zret rfl (by decide) rfl rfl hf dX3_add_34
  · rw [if_neg c3] at hf
    refine x_iconst 0 dX3_add_10 (by decide) ?_
    exact y_zret rfl (by decide) rfl rfl hf dX3_add_11
abbrev LX3_empty (G : Gm) (p : Program) (l : Launch) (e : Env) (s : State) (m : MethodId) (args : Array Value) (below : List Frame) (meth : Method) (c : Code) (r : Int32 × Mu) (pc : Nat) (lv : List (Nat × Value)) (st : List Value) (μ : Mu) : Prop := Lt G p l e { frames := 0, cells := 0, slots := 0, locals := 40 * (0) } s m args below meth c cX3_empty 2 RX3 (some .int) "empty" (MQ below (Qm G (some (.int r.1)) r.2 0) args s 0 0 (fA G)) 0 0 pc lv st μ
def fX3_empty (a : Nat) (μ : Mu) : Option (Int32 × Mu) := grd (isO 3 a μ) ((gI 3 a 0 μ).bind fun x1 =>
    (pI 3 a 0 0 μ).bind fun m3 =>
    some (x1, m3))
set_option maxRecDepth 20000 in
theorem tX3_empty {G : Gm} {l : Launch} {r : Int32 × Mu} (a : Nat) (μ : Mu) (hf : fX3_empty a μ = some r) : Mt G l yX3_empty cX3_empty 2 (some .int) (0) 0 0 [.ref (gB G + a)] μ (some (.int r.1)) r.2 := by
  rw [fX3_empty] at hf
  have hf := grd_v hf
  refine Mt.of (by decide) (Nat.le_of_ble_eq_true rfl) (fun p e s m args below meth c => ?_)
  show LX3_empty G p l e s m args below meth c r 0 [(0, .ref (gB G + a))] [] μ
  refine x_aload_n 0 dX3_empty_0 rfl ?_
  obtain ⟨x1, h2, hf⟩ := bnd hf
  refine x_getI wF_X3_19 (by decide) (by decide) rfl h2 dX3_empty_1 ?_
  refine x_istore_n [1, 0] dX3_empty_4 (by decide) (lv' := [(0, .ref (gB G + a)), (1, .int x1)]) rfl ?_
  refine x_aload_n 0 dX3_empty_5 rfl ?_
  refine x_iconst 0 dX3_empty_6 (by decide) ?_
  obtain ⟨m3, h4, hf⟩ := bnd hf
  refine x_putI wF_X3_19 (by decide) (by decide) rfl rfl h4 dX3_empty_7 ?_
  refine x_iload_n 1 dX3_empty_10 rfl ?_
  exact y_iret rfl rfl rfl hf dX3_empty_11
abbrev LX3_letterAt (G : Gm) (p : Program) (l : Launch) (e : Env) (s : State) (m : MethodId) (args : Array Value) (below : List Frame) (meth : Method) (c : Code) (r : Int32 × Mu) (pc : Nat) (lv : List (Nat × Value)) (st : List Value) (μ : Mu) : Prop := Lt G p l e { frames := 0, cells := 0, slots := 0, locals := 40 * (0) } s m args below meth c cX3_letterAt 2 RX3 (some .char) "letterAt" (MQ below (Qm G (some (.int r.1)) r.2 0) args s 0 0 (fA G)) 0 0 pc lv st μ
def fX3_letterAt (a : Nat) (u1 : Int32) (μ : Mu) : Option (Int32 × Mu) := grd (isO 3 a μ) ((if u1 < 0 then
    some (0, μ)
    else
    (gI 3 a 0 μ).bind fun x2 =>
    (if x2 ≤ u1 then
    some (0, μ)
    else
    (if 200 ≤ u1 then
    some (0, μ)
    else
    (gR 3 a 1 μ).bind fun x6 =>
    (aI 9 x6 u1 μ).bind fun x8 =>
    grd (vp_nar .char x8 = x8) (some (x8, μ))))))
set_option maxRecDepth 20000 in
theorem tX3_letterAt {G : Gm} {l : Launch} {r : Int32 × Mu} (a : Nat) (u1 : Int32) (μ : Mu) (hf : fX3_letterAt a u1 μ = some r) : Mt G l yX3_letterAt cX3_letterAt 2 (some .char) (0) 0 0 [.ref (gB G + a), .int u1] μ (some (.int r.1)) r.2 := by
  rw [fX3_letterAt] at hf
  have hf := grd_v hf
  refine Mt.of (by decide) (Nat.le_of_ble_eq_true rfl) (fun p e s m args below meth c => ?_)
  show LX3_letterAt G p l e s m args below meth c r 0 [(0, .ref (gB G + a)), (1, .int u1)] [] μ
  refine x_iload_n 1 dX3_letterAt_0 rfl ?_
  refine x_if_lt 28 dX3_letterAt_1 rfl (fun c1 => ?_) (fun c1 => ?_)
  · rw [if_pos c1] at hf
    refine x_iconst 0 dX3_letterAt_28 (by decide) ?_
    exact y_cret rfl (by decide) rfl rfl hf dX3_letterAt_29
  · rw [if_neg c1] at hf
    refine x_iload_n 1 dX3_letterAt_4 rfl ?_
    refine x_aload_n 0 dX3_letterAt_5 rfl ?_
    obtain ⟨x2, h3, hf⟩ := bnd hf
    refine x_getI wF_X3_19 (by decide) (by decide) rfl h3 dX3_letterAt_6 ?_
    refine x_icmp_ge 28 dX3_letterAt_9 rfl (fun c4 => ?_) (fun c4 => ?_)
    · rw [if_pos c4] at hf
      refine x_iconst 0 dX3_letterAt_28 (by decide) ?_
      exact y_cret rfl (by decide) rfl rfl hf dX3_letterAt_29
    · rw [if_neg c4] at hf
      refine x_iload_n 1 dX3_letterAt_12 rfl ?_
      refine x_sipush 200 dX3_letterAt_13 (by decide) ?_
      refine x_icmp_ge 28 dX3_letterAt_16 rfl (fun c5 => ?_) (fun c5 => ?_)
      · rw [if_pos c5] at hf
        refine x_iconst 0 dX3_letterAt_28 (by decide) ?_
        exact y_cret rfl (by decide) rfl rfl hf dX3_letterAt_29
      · rw [if_neg c5] at hf
        refine x_aload_n 0 dX3_letterAt_19 rfl ?_
        obtain ⟨x6, h7, hf⟩ := bnd hf
        refine x_getR wF_X3_11 (by decide) (by decide) rfl h7 dX3_letterAt_20 ?_
        refine x_iload_n 1 dX3_letterAt_23 rfl ?_
        obtain ⟨x8, h9, hf⟩ := bnd hf
        refine x_cald h9 dX3_letterAt_24 ?_
        refine x_goto 29 dX3_letterAt_25 rfl ?_
        exact y_cret rfl (grd_p hf) rfl rfl (grd_v hf) dX3_letterAt_29
abbrev LX3_isFigure (G : Gm) (p : Program) (l : Launch) (e : Env) (s : State) (m : MethodId) (args : Array Value) (below : List Frame) (meth : Method) (c : Code) (r : Int32 × Mu) (pc : Nat) (lv : List (Nat × Value)) (st : List Value) (μ : Mu) : Prop := Lt G p l e { frames := 0, cells := 0, slots := 0, locals := 40 * (0) } s m args below meth c cX3_isFigure 1 RX3 (some .boolean) "isFigure" (MQ below (Qm G (some (.int r.1)) r.2 0) args s 0 0 (fA G)) 0 0 pc lv st μ
def fX3_isFigure (u1 : Int32) (μ : Mu) : Option (Int32 × Mu) := (if u1 < 48 then
    some (0, μ)
    else
    (if 57 < u1 then
    some (0, μ)
    else
    some (1, μ)))
set_option maxRecDepth 20000 in
theorem tX3_isFigure {G : Gm} {l : Launch} {r : Int32 × Mu} (u1 : Int32) (μ : Mu) (hf : fX3_isFigure u1 μ = some r) : Mt G l yX3_isFigure cX3_isFigure 1 (some .boolean) (0) 0 0 [.int u1] μ (some (.int r.1)) r.2 := by
  rw [fX3_isFigure] at hf
  refine Mt.of (by decide) (Nat.le_of_ble_eq_true rfl) (fun p e s m args below meth c => ?_)
  show LX3_isFigure G p l e s m args below meth c r 0 [(0, .int u1)] [] μ
  refine x_iload_n 0 dX3_isFigure_0 rfl ?_
  refine x_bipush 48 dX3_isFigure_1 (by decide) ?_
  refine x_icmp_lt 16 dX3_isFigure_3 rfl (fun c1 => ?_) (fun c1 => ?_)
  · rw [if_pos c1] at hf
    refine x_iconst 0 dX3_isFigure_16 (by decide) ?_
    exact y_zret rfl (by decide) rfl rfl hf dX3_isFigure_17
  · rw [if_neg c1] at hf
    refine x_iload_n 0 dX3_isFigure_6 rfl ?_
    refine x_bipush 57 dX3_isFigure_7 (by decide) ?_
    refine x_icmp_gt 16 dX3_isFigure_9 rfl (fun c2 => ?_) (fun c2 => ?_)
    · rw [if_pos c2] at hf
      refine x_iconst 0 dX3_isFigure_16 (by decide) ?_
      exact y_zret rfl (by decide) rfl rfl hf dX3_isFigure_17
    · rw [if_neg c2] at hf
      refine x_iconst 1 dX3_isFigure_12 (by decide) ?_
      refine x_goto 17 dX3_isFigure_13 rfl ?_
      exact y_zret rfl (by decide) rfl rfl hf dX3_isFigure_17
abbrev LX3_figuresAt (G : Gm) (p : Program) (l : Launch) (e : Env) (s : State) (m : MethodId) (args : Array Value) (below : List Frame) (meth : Method) (c : Code) (r : Int32 × Mu) (pc : Nat) (lv : List (Nat × Value)) (st : List Value) (μ : Mu) : Prop := Lt G p l e { frames := 1, cells := 0, slots := 0, locals := 40 * (1) } s m args below meth c cX3_figuresAt 2 RX3 (some .int) "figuresAt" (MQ below (Qm G (some (.int r.1)) r.2 0) args s 0 0 (fA G)) 0 0 pc lv st μ
def fX3_figuresAt (a : Nat) (u1 : Int32) (μ : Mu) : Option (Int32 × Mu) := grd (isO 3 a μ) ((fX3_letterAt a u1 μ).bind fun q1 =>
    (fX3_isFigure q1.1 q1.2).bind fun q3 =>
    (if q3.1 = 0 then
    some (0, q3.2)
    else
    (fX3_letterAt a (u1 + 1) q3.2).bind fun q6 =>
    (fX3_isFigure q6.1 q6.2).bind fun q8 =>
    (if q8.1 = 0 then
    some (1, q8.2)
    else
    some (2, q8.2))))
set_option maxRecDepth 20000 in
theorem tX3_figuresAt {G : Gm} {l : Launch} {r : Int32 × Mu} (a : Nat) (u1 : Int32) (μ : Mu) (hf : fX3_figuresAt a u1 μ = some r) : Mt G l yX3_figuresAt cX3_figuresAt 2 (some .int) (1) 0 0 [.ref (gB G + a), .int u1] μ (some (.int r.1)) r.2 := by
  rw [fX3_figuresAt] at hf
  have hf := grd_v hf
  refine Mt.of (by decide) (Nat.le_of_ble_eq_true rfl) (fun p e s m args below meth c => ?_)
  show LX3_figuresAt G p l e s m args below meth c r 0 [(0, .ref (gB G + a)), (1, .int u1)] [] μ
  refine x_aload_n 0 dX3_figuresAt_0 rfl ?_
  refine x_iload_n 1 dX3_figuresAt_1 rfl ?_
  obtain ⟨q1, h2, hf⟩ := bnd hf
  refine x_callVi (rest := []) [.int u1] (tX3_letterAt a u1 μ h2) wY_X3_letterAt wI_X3_letterAt wS_X3_letterAt wL_X3_32 (grd_p h2) (by decide) rfl rfl (Nat.le_of_ble_eq_true rfl) ⟨Nat.le_of_ble_eq_true rfl, Nat.le_of_ble_eq_true rfl⟩ ⟨Nat.le_refl _, Nat.le_refl _⟩ dX3_figuresAt_2 ?_
  obtain ⟨q3, h4, hf⟩ := bnd hf
  refine x_callSi (rest := []) [.int q1.1] (tX3_isFigure q1.1 q1.2 h4) wY_X3_isFigure wT_X3_isFigure wL_X3_51 rfl (Nat.le_of_ble_eq_true rfl) ⟨Nat.le_of_ble_eq_true rfl, Nat.le_of_ble_eq_true rfl⟩ ⟨Nat.le_refl _, Nat.le_refl _⟩ dX3_figuresAt_5 ?_
  refine x_if_ne 13 dX3_figuresAt_8 rfl (fun c5 => ?_) (fun c5 => ?_)
  · rw [if_neg c5] at hf
    refine x_aload_n 0 dX3_figuresAt_13 rfl ?_
    refine x_iload_n 1 dX3_figuresAt_14 rfl ?_
    refine x_iconst 1 dX3_figuresAt_15 (by decide) ?_
    refine x_iadd dX3_figuresAt_16 ?_
    obtain ⟨q6, h7, hf⟩ := bnd hf
    refine x_callVi (rest := []) [.int (u1 + 1)] (tX3_letterAt a (u1 + 1) q3.2 h7) wY_X3_letterAt wI_X3_letterAt wS_X3_letterAt wL_X3_32 (grd_p h7) (by decide) rfl rfl (Nat.le_of_ble_eq_true rfl) ⟨Nat.le_of_ble_eq_true rfl, Nat.le_of_ble_eq_true rfl⟩ ⟨Nat.le_refl _, Nat.le_refl _⟩ dX3_figuresAt_17 ?_
    obtain ⟨q8, h9, hf⟩ := bnd hf
    refine x_callSi (rest := []) [.int q6.1] (tX3_isFigure q6.1 q6.2 h9) wY_X3_isFigure wT_X3_isFigure wL_X3_51 rfl (Nat.le_of_ble_eq_true rfl) ⟨Nat.le_of_ble_eq_true rfl, Nat.le_of_ble_eq_true rfl⟩ ⟨Nat.le_refl _, Nat.le_refl _⟩ dX3_figuresAt_20 ?_
    refine x_if_eq 30 dX3_figuresAt_23 rfl (fun c10 => ?_) (fun c10 => ?_)
    · rw [if_pos c10] at hf
      refine x_iconst 1 dX3_figuresAt_30 (by decide) ?_
      exact y_iret rfl rfl rfl hf dX3_figuresAt_31
    · rw [if_neg c10] at hf
      refine x_iconst 2 dX3_figuresAt_26 (by decide) ?_
      refine x_goto 31 dX3_figuresAt_27 rfl ?_
      exact y_iret rfl rfl rfl hf dX3_figuresAt_31
  · rw [if_pos c5] at hf
    refine x_iconst 0 dX3_figuresAt_11 (by decide) ?_
    exact y_iret rfl rfl rfl hf dX3_figuresAt_12
abbrev LX3_numberAt (G : Gm) (p : Program) (l : Launch) (e : Env) (s : State) (m : MethodId) (args : Array Value) (below : List Frame) (meth : Method) (c : Code) (r : Int32 × Mu) (pc : Nat) (lv : List (Nat × Value)) (st : List Value) (μ : Mu) : Prop := Lt G p l e { frames := 1, cells := 0, slots := 0, locals := 40 * (1) } s m args below meth c cX3_numberAt 4 RX3 (some .int) "numberAt" (MQ below (Qm G (some (.int r.1)) r.2 0) args s 0 0 (fA G)) 0 0 pc lv st μ
def fX3_numberAt (a : Nat) (u1 : Int32) (u2 : Int32) (μ : Mu) : Option (Int32 × Mu) := grd (isO 3 a μ) ((fX3_letterAt a u1 μ).bind fun q1 =>
    (if u2 = 1 then
    some (q1.1 - 48, q1.2)
    else
    (fX3_letterAt a (u1 + 1) q1.2).bind fun q4 =>
    some ((((q1.1 - 48) * 10) + q4.1) - 48, q4.2)))
set_option maxRecDepth 20000 in
theorem tX3_numberAt {G : Gm} {l : Launch} {r : Int32 × Mu} (a : Nat) (u1 : Int32) (u2 : Int32) (μ : Mu) (hf : fX3_numberAt a u1 u2 μ = some r) : Mt G l yX3_numberAt cX3_numberAt 4 (some .int) (1) 0 0 [.ref (gB G + a), .int u1, .int u2] μ (some (.int r.1)) r.2 := by
  rw [fX3_numberAt] at hf
  have hf := grd_v hf
  refine Mt.of (by decide) (Nat.le_of_ble_eq_true rfl) (fun p e s m args below meth c => ?_)
  show LX3_numberAt G p l e s m args below meth c r 0 [(0, .ref (gB G + a)), (1, .int u1), (2, .int u2)] [] μ
  refine x_aload_n 0 dX3_numberAt_0 rfl ?_
  refine x_iload_n 1 dX3_numberAt_1 rfl ?_
  obtain ⟨q1, h2, hf⟩ := bnd hf
  refine x_callVi (rest := []) [.int u1] (tX3_letterAt a u1 μ h2) wY_X3_letterAt wI_X3_letterAt wS_X3_letterAt wL_X3_32 (grd_p h2) (by decide) rfl rfl (Nat.le_of_ble_eq_true rfl) ⟨Nat.le_of_ble_eq_true rfl, Nat.le_of_ble_eq_true rfl⟩ ⟨Nat.le_refl _, Nat.le_refl _⟩ dX3_numberAt_2 ?_
  refine x_bipush 48 dX3_numberAt_5 (by decide) ?_
  refine x_isub dX3_numberAt_7 ?_
  refine x_istore_n [1, 2, 3, 0] dX3_numberAt_8 (by decide) (lv' := [(0, .ref (gB G + a)), (1, .int u1), (2, .int u2), (3, .int (q1.1 - 48))]) rfl ?_
  refine x_iload_n 2 dX3_numberAt_9 rfl ?_
  refine x_iconst 1 dX3_numberAt_10 (by decide) ?_
  refine x_icmp_ne 18 dX3_numberAt_11 rfl (fun c3 => ?_) (fun c3 => ?_)
  · rw [if_neg c3] at hf
    refine x_iload_n 3 dX3_numberAt_18 rfl ?_
    refine x_bipush 10 dX3_numberAt_19 (by decide) ?_
    refine x_imul dX3_numberAt_21 ?_
    refine x_aload_n 0 dX3_numberAt_22 rfl ?_
    refine x_iload_n 1 dX3_numberAt_23 rfl ?_
    refine x_iconst 1 dX3_numberAt_24 (by decide) ?_
    refine x_iadd dX3_numberAt_25 ?_
    obtain ⟨q4, h5, hf⟩ := bnd hf
    refine x_callVi (rest := [.int ((q1.1 - 48) * 10)]) [.int (u1 + 1)] (tX3_letterAt a (u1 + 1) q1.2 h5) wY_X3_letterAt wI_X3_letterAt wS_X3_letterAt wL_X3_32 (grd_p h5) (by decide) rfl rfl (Nat.le_of_ble_eq_true rfl) ⟨Nat.le_of_ble_eq_true rfl, Nat.le_of_ble_eq_true rfl⟩ ⟨Nat.le_refl _, Nat.le_refl _⟩ dX3_numberAt_26 ?_
    refine x_iadd dX3_numberAt_29 ?_
    refine x_bipush 48 dX3_numberAt_30 (by decide) ?_
    refine x_isub dX3_numberAt_32 ?_
    exact y_iret rfl rfl rfl hf dX3_numberAt_33
  · rw [if_pos c3] at hf
    refine x_iload_n 3 dX3_numberAt_14 rfl ?_
    refine x_goto 33 dX3_numberAt_15 rfl ?_
    exact y_iret rfl rfl rfl hf dX3_numberAt_33
abbrev LX3_numbersOf (G : Gm) (p : Program) (l : Launch) (e : Env) (s : State) (m : MethodId) (args : Array Value) (below : List Frame) (meth : Method) (c : Code) (r : Int32 × Mu) (pc : Nat) (lv : List (Nat × Value)) (st : List Value) (μ : Mu) : Prop := Lt G p l e { frames := 0, cells := 0, slots := 0, locals := 40 * (0) } s m args below meth c cX3_numbersOf 1 RX3 (some .int) "numbersOf" (MQ below (Qm G (some (.int r.1)) r.2 0) args s 0 0 (fA G)) 0 0 pc lv st μ
def fX3_numbersOf (u1 : Int32) (μ : Mu) : Option (Int32 × Mu) := (if u1 = 102 then
    some (1, μ)
    else if u1 = 103 then
    some (1, μ)
    else if u1 = 104 then
    some (3, μ)
    else if u1 = 119 then
    some (2, μ)
    else some (0, μ))
set_option maxRecDepth 20000 in
theorem tX3_numbersOf {G : Gm} {l : Launch} {r : Int32 × Mu} (u1 : Int32) (μ : Mu) (hf : fX3_numbersOf u1 μ = some r) : Mt G l yX3_numbersOf cX3_numbersOf 1 (some .int) (0) 0 0 [.int u1] μ (some (.int r.1)) r.2 := by
  rw [fX3_numbersOf] at hf
  refine Mt.of (by decide) (Nat.le_of_ble_eq_true rfl) (fun p e s m args below meth c => ?_)
  show LX3_numbersOf G p l e s m args below meth c r 0 [(0, .int u1)] [] μ
  refine x_iload_n 0 dX3_numbersOf_0 rfl ?_
  by_cases c1 : u1 = 102
  · rw [if_pos c1] at hf
    refine x_lookup 50 dX3_numbersOf_1 (by decide) (by rw [c1]) rfl ?_
    refine x_iconst 1 dX3_numbersOf_50 (by decide) ?_
    exact y_iret rfl rfl rfl hf dX3_numbersOf_51
  rw [if_neg c1] at hf
  by_cases c2 : u1 = 103
  · rw [if_pos c2] at hf
    refine x_lookup 44 dX3_numbersOf_1 (by decide) (by rw [c2]) rfl ?_
    refine x_iconst 1 dX3_numbersOf_44 (by decide) ?_
    exact y_iret rfl rfl rfl hf dX3_numbersOf_45
  rw [if_neg c2] at hf
  by_cases c3 : u1 = 104
  · rw [if_pos c3] at hf
    refine x_lookup 46 dX3_numbersOf_1 (by decide) (by rw [c3]) rfl ?_
    refine x_iconst 3 dX3_numbersOf_46 (by decide) ?_
    exact y_iret rfl rfl rfl hf dX3_numbersOf_47
  rw [if_neg c3] at hf
  by_cases c4 : u1 = 119
  · rw [if_pos c4] at hf
    refine x_lookup 48 dX3_numbersOf_1 (by decide) (by rw [c4]) rfl ?_
    refine x_iconst 2 dX3_numbersOf_48 (by decide) ?_
    exact y_iret rfl rfl rfl hf dX3_numbersOf_49
  rw [if_neg c4] at hf
  refine x_lookup (off := 51) 52 dX3_numbersOf_1 (by decide) (by show Op.lookupswitch.offset [(102, 49), (103, 43), (104, 45), (119, 47)] 51 _ = 51; rw [lv_osw c1 (a := 102) (by decide), lv_osw c2 (a := 103) (by decide), lv_osw c3 (a := 104) (by decide), lv_osw c4 (a := 119) (by decide)]; rfl) rfl ?_
  refine x_iconst 0 dX3_numbersOf_52 (by decide) ?_
  exact y_iret rfl rfl rfl hf dX3_numbersOf_53
abbrev LX3_readItem (G : Gm) (p : Program) (l : Launch) (e : Env) (s : State) (m : MethodId) (args : Array Value) (below : List Frame) (meth : Method) (c : Code) (r : Int32 × Mu) (pc : Nat) (lv : List (Nat × Value)) (st : List Value) (μ : Mu) : Prop := Lt G p l e { frames := 2, cells := 0, slots := 0, locals := 40 * (2) } s m args below meth c cX3_readItem 6 RX3 (some .int) "readItem" (MQ below (Qm G (some (.int r.1)) r.2 0) args s 0 0 (fA G)) 0 0 pc lv st μ
def fX3_readItem_23 : Nat → Nat → Int32 → Int32 → Int32 → Mu → Option (Int32 × Mu)
  | 0, _, _, _, _, _ => none
  | n + 1, v0, v2, v3, v4, μ => (if v2 ≤ v4 then
    some (v3, μ)
    else
    (if 3 ≤ v4 then
    some (v3, μ)
    else
    (fX3_figuresAt v0 v3 μ).bind fun q8 =>
    (if q8.1 = 0 then
    some ((-4), q8.2)
    else
    (gR 3 v0 2 q8.2).bind fun x11 =>
    (fX3_numberAt v0 v3 q8.1 q8.2).bind fun q13 =>
    (bI 8 x11 v4 q13.1 q13.2).bind fun m15 =>
    (fX3_letterAt v0 (v3 + q8.1) m15).bind fun q17 =>
    (if v4 = (v2 - 1) then
    (if q17.1 = 59 then
    (fX3_readItem_23 n) v0 v2 ((v3 + q8.1) + 1) (v4 + 1) q17.2
    else
    some ((-4), q17.2))
    else
    (if q17.1 = 44 then
    (fX3_readItem_23 n) v0 v2 ((v3 + q8.1) + 1) (v4 + 1) q17.2
    else
    some ((-4), q17.2))))))
set_option maxRecDepth 20000 in
theorem tX3_readItem_23 {G : Gm} {p : Program} {l : Launch} {e : Env} {s : State} {m : MethodId} {args : Array Value} {below : List Frame} {meth : Method} {c : Code} {r : Int32 × Mu} : ∀ (n : Nat) (v0 : Nat) (v2 : Int32) (v3 : Int32) (v4 : Int32) (μ : Mu), fX3_readItem_23 n v0 v2 v3 v4 μ = some r → LX3_readItem G p l e s m args below meth c r 23 [(0, .ref (gB G + v0)), (2, .int v2), (3, .int v3), (4, .int v4)] [] μ := by
  intro n
  induction n with
  | zero =>
    intro v0 v2 v3 v4 μ hf
    simp [fX3_readItem_23] at hf
  | succ n ih =>
    intro v0 v2 v3 v4 μ hf
    rw [fX3_readItem_23] at hf
    refine x_iload 3 dX3_readItem_23 rfl ?_
    refine x_iload_n 1 dX3_readItem_25 rfl ?_
    refine x_icmp_ge 104 dX3_readItem_26 rfl (fun c6 => ?_) (fun c6 => ?_)
    · rw [if_pos c6] at hf
      refine x_iload_n 2 dX3_readItem_104 rfl ?_
      exact y_iret rfl rfl rfl hf dX3_readItem_105
    · rw [if_neg c6] at hf
      refine x_iload 3 dX3_readItem_29 rfl ?_
      refine x_iconst 3 dX3_readItem_31 (by decide) ?_
      refine x_icmp_ge 104 dX3_readItem_32 rfl (fun c7 => ?_) (fun c7 => ?_)
      · rw [if_pos c7] at hf
        refine x_iload_n 2 dX3_readItem_104 rfl ?_
        exact y_iret rfl rfl rfl hf dX3_readItem_105
      · rw [if_neg c7] at hf
        refine x_aload_n 0 dX3_readItem_35 rfl ?_
        refine x_iload_n 2 dX3_readItem_36 rfl ?_
        obtain ⟨q8, h9, hf⟩ := bnd hf
        refine x_callVi (rest := []) [.int v3] (tX3_figuresAt v0 v3 μ h9) wY_X3_figuresAt wI_X3_figuresAt wS_X3_figuresAt wL_X3_44 (grd_p h9) (by decide) rfl rfl (Nat.le_of_ble_eq_true rfl) ⟨Nat.le_of_ble_eq_true rfl, Nat.le_of_ble_eq_true rfl⟩ ⟨Nat.le_refl _, Nat.le_refl _⟩ dX3_readItem_37 ?_
        refine x_istore [1, 2, 3, 4, 0] dX3_readItem_40 (by decide) (lv' := [(0, .ref (gB G + v0)), (2, .int v2), (3, .int v3), (4, .int v4), (5, .int q8.1)]) rfl ?_
        refine x_iload 4 dX3_readItem_42 rfl ?_
        refine x_if_ne 50 dX3_readItem_44 rfl (fun c10 => ?_) (fun c10 => ?_)
        · rw [if_neg c10] at hf
          refine x_aload_n 0 dX3_readItem_50 rfl ?_
          obtain ⟨x11, h12, hf⟩ := bnd hf
          refine x_getR wF_X3_15 (by decide) (by decide) rfl h12 dX3_readItem_51 ?_
          refine x_iload 3 dX3_readItem_54 rfl ?_
          refine x_aload_n 0 dX3_readItem_56 rfl ?_
          refine x_iload_n 2 dX3_readItem_57 rfl ?_
          refine x_iload 4 dX3_readItem_58 rfl ?_
          obtain ⟨q13, h14, hf⟩ := bnd hf
          refine x_callVi (rest := [.int v4, .ref (gB G + x11)]) [.int v3, .int q8.1] (tX3_numberAt v0 v3 q8.1 q8.2 h14) wY_X3_numberAt wI_X3_numberAt wS_X3_numberAt wL_X3_47 (grd_p h14) (by decide) rfl rfl (Nat.le_of_ble_eq_true rfl) ⟨Nat.le_of_ble_eq_true rfl, Nat.le_of_ble_eq_true rfl⟩ ⟨Nat.le_refl _, Nat.le_refl _⟩ dX3_readItem_60 ?_
          obtain ⟨m15, h16, hf⟩ := bnd hf
          refine x_iast h16 dX3_readItem_63 ?_
          refine x_iload_n 2 dX3_readItem_64 rfl ?_
          refine x_iload 4 dX3_readItem_65 rfl ?_
          refine x_iadd dX3_readItem_67 ?_
          refine x_istore_n [1, 2, 0, 3, 4] dX3_readItem_68 (by decide) (lv' := [(0, .ref (gB G + v0)), (2, .int v2), (3, .int (v3 + q8.1)), (4, .int v4), (5, .int q8.1)]) rfl ?_
          refine x_aload_n 0 dX3_readItem_69 rfl ?_
          refine x_iload_n 2 dX3_readItem_70 rfl ?_
          obtain ⟨q17, h18, hf⟩ := bnd hf
          refine x_callVi (rest := []) [.int (v3 + q8.1)] (tX3_letterAt v0 (v3 + q8.1) m15 h18) wY_X3_letterAt wI_X3_letterAt wS_X3_letterAt wL_X3_32 (grd_p h18) (by decide) rfl rfl (Nat.le_of_ble_eq_true rfl) ⟨Nat.le_of_ble_eq_true rfl, Nat.le_of_ble_eq_true rfl⟩ ⟨Nat.le_refl _, Nat.le_refl _⟩ dX3_readItem_71 ?_
          refine x_iload 3 dX3_readItem_74 rfl ?_
          refine x_iload_n 1 dX3_readItem_76 rfl ?_
          refine x_iconst 1 dX3_readItem_77 (by decide) ?_
          refine x_isub dX3_readItem_78 ?_
          refine x_icmp_ne 87 dX3_readItem_79 rfl (fun c19 => ?_) (fun c19 => ?_)
          · rw [if_neg c19] at hf
            refine x_bipush 44 dX3_readItem_87 (by decide) ?_
            refine x_icmp_eq 95 dX3_readItem_89 rfl (fun c20 => ?_) (fun c20 => ?_)
            · rw [if_pos c20] at hf
              refine x_iinc 2 ((v3 + q8.1) + 1) [1, 2, 0, 3, 4] dX3_readItem_95 rfl rfl (by decide) (lv' := [(0, .ref (gB G + v0)), (2, .int v2), (3, .int ((v3 + q8.1) + 1)), (4, .int v4), (5, .int q8.1)]) rfl ?_
              refine x_iinc 3 (v4 + 1) [1, 2, 3, 0, 4] dX3_readItem_98 rfl rfl (by decide) (lv' := [(0, .ref (gB G + v0)), (2, .int v2), (3, .int ((v3 + q8.1) + 1)), (4, .int (v4 + 1)), (5, .int q8.1)]) rfl ?_
              refine x_goto 23 dX3_readItem_101 rfl ?_
              refine x_sub [0, 1, 2, 3] (lv' := [(0, .ref (gB G + v0)), (2, .int v2), (3, .int ((v3 + q8.1) + 1)), (4, .int (v4 + 1))]) rfl ?_
              exact ih v0 v2 ((v3 + q8.1) + 1) (v4 + 1) q17.2 hf
            · rw [if_neg c20] at hf
              refine x_bipush (-4) dX3_readItem_92 (by decide) ?_
              exact y_iret rfl rfl rfl hf dX3_readItem_94
          · rw [if_pos c19] at hf
            refine x_bipush 59 dX3_readItem_82 (by decide) ?_
            refine x_goto 89 dX3_readItem_84 rfl ?_
            refine x_icmp_eq 95 dX3_readItem_89 rfl (fun c21 => ?_) (fun c21 => ?_)
            · rw [if_pos c21] at hf
              refine x_iinc 2 ((v3 + q8.1) + 1) [1, 2, 0, 3, 4] dX3_readItem_95 rfl rfl (by decide) (lv' := [(0, .ref (gB G + v0)), (2, .int v2), (3, .int ((v3 + q8.1) + 1)), (4, .int v4), (5, .int q8.1)]) rfl ?_
              refine x_iinc 3 (v4 + 1) [1, 2, 3, 0, 4] dX3_readItem_98 rfl rfl (by decide) (lv' := [(0, .ref (gB G + v0)), (2, .int v2), (3, .int ((v3 + q8.1) + 1)), (4, .int (v4 + 1)), (5, .int q8.1)]) rfl ?_
              refine x_goto 23 dX3_readItem_101 rfl ?_
              refine x_sub [0, 1, 2, 3] (lv' := [(0, .ref (gB G + v0)), (2, .int v2), (3, .int ((v3 + q8.1) + 1)), (4, .int (v4 + 1))]) rfl ?_
              exact ih v0 v2 ((v3 + q8.1) + 1) (v4 + 1) q17.2 hf
            · rw [if_neg c21] at hf
              refine x_bipush (-4) dX3_readItem_92 (by decide) ?_
              exact y_iret rfl rfl rfl hf dX3_readItem_94
        · rw [if_pos c10] at hf
          refine x_bipush (-4) dX3_readItem_47 (by decide) ?_
          exact y_iret rfl rfl rfl hf dX3_readItem_49
def fX3_readItem (a : Nat) (u1 : Int32) (μ : Mu) : Option (Int32 × Mu) := grd (isO 3 a μ) ((fX3_letterAt a u1 μ).bind fun q1 =>
    (fX3_numbersOf q1.1 q1.2).bind fun q3 =>
    (if q3.1 = 0 then
    some ((-4), q3.2)
    else
    fX3_readItem_23  FU a q3.1 (u1 + 1) 0 q3.2))
set_option maxRecDepth 20000 in
theorem tX3_readItem {G : Gm} {l : Launch} {r : Int32 × Mu} (a : Nat) (u1 : Int32) (μ : Mu) (hf : fX3_readItem a u1 μ = some r) : Mt G l yX3_readItem cX3_readItem 6 (some .int) (2) 0 0 [.ref (gB G + a), .int u1] μ (some (.int r.1)) r.2 := by
  rw [fX3_readItem] at hf
  have hf := grd_v hf
  refine Mt.of (by decide) (Nat.le_of_ble_eq_true rfl) (fun p e s m args below meth c => ?_)
  show LX3_readItem G p l e s m args below meth c r 0 [(0, .ref (gB G + a)), (1, .int u1)] [] μ
  refine x_aload_n 0 dX3_readItem_0 rfl ?_
  refine x_iload_n 1 dX3_readItem_1 rfl ?_
  obtain ⟨q1, h2, hf⟩ := bnd hf
  refine x_callVi (rest := []) [.int u1] (tX3_letterAt a u1 μ h2) wY_X3_letterAt wI_X3_letterAt wS_X3_letterAt wL_X3_32 (grd_p h2) (by decide) rfl rfl (Nat.le_of_ble_eq_true rfl) ⟨Nat.le_of_ble_eq_true rfl, Nat.le_of_ble_eq_true rfl⟩ ⟨Nat.le_refl _, Nat.le_refl _⟩ dX3_readItem_2 ?_
  obtain ⟨q3, h4, hf⟩ := bnd hf
  refine x_callSi (rest := []) [.int q1.1] (tX3_numbersOf q1.1 q1.2 h4) wY_X3_numbersOf wT_X3_numbersOf wL_X3_40 rfl (Nat.le_of_ble_eq_true rfl) ⟨Nat.le_of_ble_eq_true rfl, Nat.le_of_ble_eq_true rfl⟩ ⟨Nat.le_refl _, Nat.le_refl _⟩ dX3_readItem_5 ?_
  refine x_istore_n [1, 2, 0] dX3_readItem_8 (by decide) (lv' := [(0, .ref (gB G + a)), (1, .int u1), (2, .int q3.1)]) rfl ?_
  refine x_iload_n 2 dX3_readItem_9 rfl ?_
  refine x_if_ne 16 dX3_readItem_10 rfl (fun c5 => ?_) (fun c5 => ?_)
  · rw [if_neg c5] at hf
    refine x_iload_n 1 dX3_readItem_16 rfl ?_
    refine x_iconst 1 dX3_readItem_17 (by decide) ?_
    refine x_iadd dX3_readItem_18 ?_
    refine x_istore_n [1, 2, 3, 0] dX3_readItem_19 (by decide) (lv' := [(0, .ref (gB G + a)), (1, .int u1), (2, .int q3.1), (3, .int (u1 + 1))]) rfl ?_
    refine x_iconst 0 dX3_readItem_20 (by decide) ?_
    refine x_istore [1, 2, 3, 4, 0] dX3_readItem_21 (by decide) (lv' := [(0, .ref (gB G + a)), (1, .int u1), (2, .int q3.1), (3, .int (u1 + 1)), (4, .int 0)]) rfl ?_
    refine x_sub [0, 2, 3, 4] (lv' := [(0, .ref (gB G + a)), (2, .int q3.1), (3, .int (u1 + 1)), (4, .int 0)]) rfl ?_
    exact tX3_readItem_23  FU a q3.1 (u1 + 1) 0 q3.2 hf
  · rw [if_pos c5] at hf
    refine x_bipush (-4) dX3_readItem_13 (by decide) ?_
    exact y_iret rfl rfl rfl hf dX3_readItem_15
abbrev LX3_tell (G : Gm) (p : Program) (l : Launch) (e : Env) (s : State) (m : MethodId) (args : Array Value) (below : List Frame) (meth : Method) (c : Code) (r : Int32 × Mu) (pc : Nat) (lv : List (Nat × Value)) (st : List Value) (μ : Mu) : Prop := Lt G p l e { frames := 5, cells := 0, slots := 0, locals := 40 * (5) } s m args below meth c cX3_tell 3 RX3 (some .boolean) "tell" (MQ below (Qm G (some (.int r.1)) r.2 0) args s 0 0 (fA G)) 0 0 pc lv st μ
def fX3_tell (a : Nat) (u1 : Nat) (u2 : Int32) (μ : Mu) : Option (Int32 × Mu) := grd (isO 3 a μ) ((if u2 = 102 then
    (gR 3 a 2 μ).bind fun x2 =>
    (aI 8 x2 0 μ).bind fun x4 =>
    (fX0_addFrost u1 x4 μ).bind fun q6 =>
    grd (q6.1 = 0 ∨ q6.1 = 1) (some (q6.1, q6.2))
    else if u2 = 103 then
    (gR 3 a 2 μ).bind fun x9 =>
    (aI 8 x9 0 μ).bind fun x11 =>
    (fX0_addPlot u1 x11 μ).bind fun q13 =>
    grd (q13.1 = 0 ∨ q13.1 = 1) (some (q13.1, q13.2))
    else if u2 = 104 then
    (gR 3 a 2 μ).bind fun x16 =>
    (aI 8 x16 0 μ).bind fun x18 =>
    (gR 3 a 2 μ).bind fun x20 =>
    (aI 8 x20 1 μ).bind fun x22 =>
    (gR 3 a 2 μ).bind fun x24 =>
    (aI 8 x24 2 μ).bind fun x26 =>
    (fX0_addLyingHour u1 x18 x22 x26 μ).bind fun q28 =>
    grd (q28.1 = 0 ∨ q28.1 = 1) (some (q28.1, q28.2))
    else if u2 = 119 then
    (gR 3 a 2 μ).bind fun x31 =>
    (aI 8 x31 0 μ).bind fun x33 =>
    (gR 3 a 2 μ).bind fun x35 =>
    (aI 8 x35 1 μ).bind fun x37 =>
    (fX0_addHour u1 x33 x37 μ).bind fun q39 =>
    grd (q39.1 = 0 ∨ q39.1 = 1) (some (q39.1, q39.2))
    else some (0, μ)))
set_option maxRecDepth 20000 in
theorem tX3_tell {G : Gm} {l : Launch} {r : Int32 × Mu} (a : Nat) (u1 : Nat) (u2 : Int32) (μ : Mu) (hf : fX3_tell a u1 u2 μ = some r) : Mt G l yX3_tell cX3_tell 3 (some .boolean) (5) 0 0 [.ref (gB G + a), .ref (gB G + u1), .int u2] μ (some (.int r.1)) r.2 := by
  rw [fX3_tell] at hf
  have hf := grd_v hf
  refine Mt.of (by decide) (Nat.le_of_ble_eq_true rfl) (fun p e s m args below meth c => ?_)
  show LX3_tell G p l e s m args below meth c r 0 [(0, .ref (gB G + a)), (1, .ref (gB G + u1)), (2, .int u2)] [] μ
  refine x_iload_n 2 dX3_tell_0 rfl ?_
  by_cases c1 : u2 = 102
  · rw [if_pos c1] at hf
    refine x_lookup 95 dX3_tell_1 (by decide) (by rw [c1]) rfl ?_
    refine x_aload_n 1 dX3_tell_95 rfl ?_
    refine x_aload_n 0 dX3_tell_96 rfl ?_
    obtain ⟨x2, h3, hf⟩ := bnd hf
    refine x_getR wF_X3_15 (by decide) (by decide) rfl h3 dX3_tell_97 ?_
    refine x_iconst 0 dX3_tell_100 (by decide) ?_
    obtain ⟨x4, h5, hf⟩ := bnd hf
    refine x_iald h5 dX3_tell_101 ?_
    obtain ⟨q6, h7, hf⟩ := bnd hf
    refine x_callVi (rest := []) [.int x4] (tX0_addFrost u1 x4 μ h7) wY_X0_addFrost wI_X0_addFrost wS_X0_addFrost wL_X3_67 (grd_p h7) (by decide) rfl rfl (Nat.le_of_ble_eq_true rfl) ⟨Nat.le_of_ble_eq_true rfl, Nat.le_of_ble_eq_true rfl⟩ ⟨Nat.le_refl _, Nat.le_refl _⟩ dX3_tell_102 ?_
    exact y_zret rfl (grd_p hf) rfl rfl (grd_v hf) dX3_tell_105
  rw [if_neg c1] at hf
  by_cases c8 : u2 = 103
  · rw [if_pos c8] at hf
    refine x_lookup 44 dX3_tell_1 (by decide) (by rw [c8]) rfl ?_
    refine x_aload_n 1 dX3_tell_44 rfl ?_
    refine x_aload_n 0 dX3_tell_45 rfl ?_
    obtain ⟨x9, h10, hf⟩ := bnd hf
    refine x_getR wF_X3_15 (by decide) (by decide) rfl h10 dX3_tell_46 ?_
    refine x_iconst 0 dX3_tell_49 (by decide) ?_
    obtain ⟨x11, h12, hf⟩ := bnd hf
    refine x_iald h12 dX3_tell_50 ?_
    obtain ⟨q13, h14, hf⟩ := bnd hf
    refine x_callVi (rest := []) [.int x11] (tX0_addPlot u1 x11 μ h14) wY_X0_addPlot wI_X0_addPlot wS_X0_addPlot wL_X3_55 (grd_p h14) (by decide) rfl rfl (Nat.le_of_ble_eq_true rfl) ⟨Nat.le_of_ble_eq_true rfl, Nat.le_of_ble_eq_true rfl⟩ ⟨Nat.le_refl _, Nat.le_refl _⟩ dX3_tell_51 ?_
    exact y_zret rfl (grd_p hf) rfl rfl (grd_v hf) dX3_tell_54
  rw [if_neg c8] at hf
  by_cases c15 : u2 = 104
  · rw [if_pos c15] at hf
    refine x_lookup 55 dX3_tell_1 (by decide) (by rw [c15]) rfl ?_
    refine x_aload_n 1 dX3_tell_55 rfl ?_
    refine x_aload_n 0 dX3_tell_56 rfl ?_
    obtain ⟨x16, h17, hf⟩ := bnd hf
    refine x_getR wF_X3_15 (by decide) (by decide) rfl h17 dX3_tell_57 ?_
    refine x_iconst 0 dX3_tell_60 (by decide) ?_
    obtain ⟨x18, h19, hf⟩ := bnd hf
    refine x_iald h19 dX3_tell_61 ?_
    refine x_aload_n 0 dX3_tell_62 rfl ?_
    obtain ⟨x20, h21, hf⟩ := bnd hf
    refine x_getR wF_X3_15 (by decide) (by decide) rfl h21 dX3_tell_63 ?_
    refine x_iconst 1 dX3_tell_66 (by decide) ?_
    obtain ⟨x22, h23, hf⟩ := bnd hf
    refine x_iald h23 dX3_tell_67 ?_
    refine x_aload_n 0 dX3_tell_68 rfl ?_
    obtain ⟨x24, h25, hf⟩ := bnd hf
    refine x_getR wF_X3_15 (by decide) (by decide) rfl h25 dX3_tell_69 ?_
    refine x_iconst 2 dX3_tell_72 (by decide) ?_
    obtain ⟨x26, h27, hf⟩ := bnd hf
    refine x_iald h27 dX3_tell_73 ?_
    obtain ⟨q28, h29, hf⟩ := bnd hf
    refine x_callVi (rest := []) [.int x18, .int x22, .int x26] (tX0_addLyingHour u1 x18 x22 x26 μ h29) wY_X0_addLyingHour wI_X0_addLyingHour wS_X0_addLyingHour wL_X3_59 (grd_p h29) (by decide) rfl rfl (Nat.le_of_ble_eq_true rfl) ⟨Nat.le_of_ble_eq_true rfl, Nat.le_of_ble_eq_true rfl⟩ ⟨Nat.le_refl _, Nat.le_refl _⟩ dX3_tell_74 ?_
    exact y_zret rfl (grd_p hf) rfl rfl (grd_v hf) dX3_tell_77
  rw [if_neg c15] at hf
  by_cases c30 : u2 = 119
  · rw [if_pos c30] at hf
    refine x_lookup 78 dX3_tell_1 (by decide) (by rw [c30]) rfl ?_
    refine x_aload_n 1 dX3_tell_78 rfl ?_
    refine x_aload_n 0 dX3_tell_79 rfl ?_
    obtain ⟨x31, h32, hf⟩ := bnd hf
    refine x_getR wF_X3_15 (by decide) (by decide) rfl h32 dX3_tell_80 ?_
    refine x_iconst 0 dX3_tell_83 (by decide) ?_
    obtain ⟨x33, h34, hf⟩ := bnd hf
    refine x_iald h34 dX3_tell_84 ?_
    refine x_aload_n 0 dX3_tell_85 rfl ?_
    obtain ⟨x35, h36, hf⟩ := bnd hf
    refine x_getR wF_X3_15 (by decide) (by decide) rfl h36 dX3_tell_86 ?_
    refine x_iconst 1 dX3_tell_89 (by decide) ?_
    obtain ⟨x37, h38, hf⟩ := bnd hf
    refine x_iald h38 dX3_tell_90 ?_
    obtain ⟨q39, h40, hf⟩ := bnd hf
    refine x_callVi (rest := []) [.int x33, .int x37] (tX0_addHour u1 x33 x37 μ h40) wY_X0_addHour wI_X0_addHour wS_X0_addHour wL_X3_63 (grd_p h40) (by decide) rfl rfl (Nat.le_of_ble_eq_true rfl) ⟨Nat.le_of_ble_eq_true rfl, Nat.le_of_ble_eq_true rfl⟩ ⟨Nat.le_refl _, Nat.le_refl _⟩ dX3_tell_91 ?_
    exact y_zret rfl (grd_p hf) rfl rfl (grd_v hf) dX3_tell_94
  rw [if_neg c30] at hf
  refine x_lookup (off := 105) 106 dX3_tell_1 (by decide) (by show Op.lookupswitch.offset [(102, 94), (103, 43), (104, 54), (119, 77)] 105 _ = 105; rw [lv_osw c1 (a := 102) (by decide), lv_osw c8 (a := 103) (by decide), lv_osw c15 (a := 104) (by decide), lv_osw c30 (a := 119) (by decide)]; rfl) rfl ?_
  refine x_iconst 0 dX3_tell_106 (by decide) ?_
  exact y_zret rfl (by decide) rfl rfl hf dX3_tell_107
abbrev LX3_readInto (G : Gm) (p : Program) (l : Launch) (e : Env) (s : State) (m : MethodId) (args : Array Value) (below : List Frame) (meth : Method) (c : Code) (r : Int32 × Mu) (pc : Nat) (lv : List (Nat × Value)) (st : List Value) (μ : Mu) : Prop := Lt G p l e { frames := 6, cells := 0, slots := 0, locals := 40 * (6) } s m args below meth c cX3_readInto 4 RX3 (some .int) "readInto" (MQ below (Qm G (some (.int r.1)) r.2 0) args s 0 0 (fA G)) 0 0 pc lv st μ
def fX3_readInto_6 : Nat → Nat → Nat → Int32 → Mu → Option (Int32 × Mu)
  | 0, _, _, _, _ => none
  | n + 1, v0, v1, v2, μ => (gI 3 v0 0 μ).bind fun x3 =>
    (if x3 ≤ v2 then
    some ((-4), μ)
    else
    (fX3_readItem v0 v2 μ).bind fun q6 =>
    (if q6.1 ≤ v2 then
    some (v2, q6.2)
    else
    (fX3_letterAt v0 v2 q6.2).bind fun q9 =>
    (fX3_tell v0 v1 q9.1 q9.2).bind fun q11 =>
    (if q11.1 = 0 then
    some (v2, q11.2)
    else
    (fX3_readInto_6 n) v0 v1 q6.1 q11.2)))
set_option maxRecDepth 20000 in
theorem tX3_readInto_6 {G : Gm} {p : Program} {l : Launch} {e : Env} {s : State} {m : MethodId} {args : Array Value} {below : List Frame} {meth : Method} {c : Code} {r : Int32 × Mu} : ∀ (n : Nat) (v0 : Nat) (v1 : Nat) (v2 : Int32) (μ : Mu), fX3_readInto_6 n v0 v1 v2 μ = some r → LX3_readInto G p l e s m args below meth c r 6 [(0, .ref (gB G + v0)), (1, .ref (gB G + v1)), (2, .int v2)] [] μ := by
  intro n
  induction n with
  | zero =>
    intro v0 v1 v2 μ hf
    simp [fX3_readInto_6] at hf
  | succ n ih =>
    intro v0 v1 v2 μ hf
    rw [fX3_readInto_6] at hf
    refine x_iload_n 2 dX3_readInto_6 rfl ?_
    refine x_aload_n 0 dX3_readInto_7 rfl ?_
    obtain ⟨x3, h4, hf⟩ := bnd hf
    refine x_getI wF_X3_19 (by decide) (by decide) rfl h4 dX3_readInto_8 ?_
    refine x_icmp_ge 45 dX3_readInto_11 rfl (fun c5 => ?_) (fun c5 => ?_)
    · rw [if_pos c5] at hf
      refine x_bipush (-4) dX3_readInto_45 (by decide) ?_
      exact y_iret rfl rfl rfl hf dX3_readInto_47
    · rw [if_neg c5] at hf
      refine x_aload_n 0 dX3_readInto_14 rfl ?_
      refine x_iload_n 2 dX3_readInto_15 rfl ?_
      obtain ⟨q6, h7, hf⟩ := bnd hf
      refine x_callVi (rest := []) [.int v2] (tX3_readItem v0 v2 μ h7) wY_X3_readItem wI_X3_readItem wS_X3_readItem wL_X3_28 (grd_p h7) (by decide) rfl rfl (Nat.le_of_ble_eq_true rfl) ⟨Nat.le_of_ble_eq_true rfl, Nat.le_of_ble_eq_true rfl⟩ ⟨Nat.le_refl _, Nat.le_refl _⟩ dX3_readInto_16 ?_
      refine x_istore_n [1, 2, 3, 0] dX3_readInto_19 (by decide) (lv' := [(0, .ref (gB G + v0)), (1, .ref (gB G + v1)), (2, .int v2), (3, .int q6.1)]) rfl ?_
      refine x_iload_n 3 dX3_readInto_20 rfl ?_
      refine x_iload_n 2 dX3_readInto_21 rfl ?_
      refine x_icmp_le 38 dX3_readInto_22 rfl (fun c8 => ?_) (fun c8 => ?_)
      · rw [if_pos c8] at hf
        refine x_iload_n 2 dX3_readInto_38 rfl ?_
        exact y_iret rfl rfl rfl hf dX3_readInto_39
      · rw [if_neg c8] at hf
        refine x_aload_n 0 dX3_readInto_25 rfl ?_
        refine x_aload_n 1 dX3_readInto_26 rfl ?_
        refine x_aload_n 0 dX3_readInto_27 rfl ?_
        refine x_iload_n 2 dX3_readInto_28 rfl ?_
        obtain ⟨q9, h10, hf⟩ := bnd hf
        refine x_callVi (rest := [.ref (gB G + v1), .ref (gB G + v0)]) [.int v2] (tX3_letterAt v0 v2 q6.2 h10) wY_X3_letterAt wI_X3_letterAt wS_X3_letterAt wL_X3_32 (grd_p h10) (by decide) rfl rfl (Nat.le_of_ble_eq_true rfl) ⟨Nat.le_of_ble_eq_true rfl, Nat.le_of_ble_eq_true rfl⟩ ⟨Nat.le_refl _, Nat.le_refl _⟩ dX3_readInto_29 ?_
        obtain ⟨q11, h12, hf⟩ := bnd hf
        refine x_callVi (rest := []) [.ref (gB G + v1), .int q9.1] (tX3_tell v0 v1 q9.1 q9.2 h12) wY_X3_tell wI_X3_tell wS_X3_tell wL_X3_36 (grd_p h12) (by decide) rfl rfl (Nat.le_of_ble_eq_true rfl) ⟨Nat.le_of_ble_eq_true rfl, Nat.le_of_ble_eq_true rfl⟩ ⟨Nat.le_refl _, Nat.le_refl _⟩ dX3_readInto_32 ?_
        refine x_if_ne 40 dX3_readInto_35 rfl (fun c13 => ?_) (fun c13 => ?_)
        · rw [if_neg c13] at hf
          refine x_iload_n 3 dX3_readInto_40 rfl ?_
          refine x_istore_n [1, 2, 0, 3] dX3_readInto_41 (by decide) (lv' := [(0, .ref (gB G + v0)), (1, .ref (gB G + v1)), (2, .int q6.1), (3, .int q6.1)]) rfl ?_
          refine x_goto 6 dX3_readInto_42 rfl ?_
          refine x_sub [0, 1, 2] (lv' := [(0, .ref (gB G + v0)), (1, .ref (gB G + v1)), (2, .int q6.1)]) rfl ?_
          exact ih v0 v1 q6.1 q11.2 hf
        · rw [if_pos c13] at hf
          refine x_iload_n 2 dX3_readInto_38 rfl ?_
          exact y_iret rfl rfl rfl hf dX3_readInto_39
def fX3_readInto (a : Nat) (u1 : Nat) (μ : Mu) : Option (Int32 × Mu) := grd (isO 3 a μ) ((fX0_clear u1  μ).bind fun q1 =>
    fX3_readInto_6  FU a u1 0 q1)
set_option maxRecDepth 20000 in
theorem tX3_readInto {G : Gm} {l : Launch} {r : Int32 × Mu} (a : Nat) (u1 : Nat) (μ : Mu) (hf : fX3_readInto a u1 μ = some r) : Mt G l yX3_readInto cX3_readInto 4 (some .int) (6) 0 0 [.ref (gB G + a), .ref (gB G + u1)] μ (some (.int r.1)) r.2 := by
  rw [fX3_readInto] at hf
  have hf := grd_v hf
  refine Mt.of (by decide) (Nat.le_of_ble_eq_true rfl) (fun p e s m args below meth c => ?_)
  show LX3_readInto G p l e s m args below meth c r 0 [(0, .ref (gB G + a)), (1, .ref (gB G + u1))] [] μ
  refine x_aload_n 1 dX3_readInto_0 rfl ?_
  obtain ⟨q1, h2, hf⟩ := bnd hf
  refine x_callVv (rest := []) [] (tX0_clear u1  μ h2) wY_X0_clear wI_X0_clear wS_X0_clear wL_X3_23 (grd_p h2) (by decide) rfl rfl (Nat.le_of_ble_eq_true rfl) ⟨Nat.le_of_ble_eq_true rfl, Nat.le_of_ble_eq_true rfl⟩ ⟨Nat.le_refl _, Nat.le_refl _⟩ dX3_readInto_1 ?_
  refine x_iconst 0 dX3_readInto_4 (by decide) ?_
  refine x_istore_n [1, 2, 0] dX3_readInto_5 (by decide) (lv' := [(0, .ref (gB G + a)), (1, .ref (gB G + u1)), (2, .int 0)]) rfl ?_
  exact tX3_readInto_6  FU a u1 0 q1 hf
abbrev LX4_empty (G : Gm) (p : Program) (l : Launch) (e : Env) (s : State) (m : MethodId) (args : Array Value) (below : List Frame) (meth : Method) (c : Code) (r : Mu) (pc : Nat) (lv : List (Nat × Value)) (st : List Value) (μ : Mu) : Prop := Lt G p l e { frames := 0, cells := 0, slots := 0, locals := 40 * (0) } s m args below meth c cX4_empty 1 RX4 none "empty" (MQ below (Qm G none r 0) args s 0 0 (fA G)) 0 0 pc lv st μ
def fX4_empty (a : Nat) (μ : Mu) : Option (Mu) := grd (isO 4 a μ) ((pI 4 a 0 0 μ).bind fun m1 =>
    some m1)
set_option maxRecDepth 20000 in
theorem tX4_empty {G : Gm} {l : Launch} {r : Mu} (a : Nat) (μ : Mu) (hf : fX4_empty a μ = some r) : Mt G l yX4_empty cX4_empty 1 none (0) 0 0 [.ref (gB G + a)] μ none r := by
  rw [fX4_empty] at hf
  have hf := grd_v hf
  refine Mt.of (by decide) (Nat.le_of_ble_eq_true rfl) (fun p e s m args below meth c => ?_)
  show LX4_empty G p l e s m args below meth c r 0 [(0, .ref (gB G + a))] [] μ
  refine x_aload_n 0 dX4_empty_0 rfl ?_
  refine x_iconst 0 dX4_empty_1 (by decide) ?_
  obtain ⟨m1, h2, hf⟩ := bnd hf
  refine x_putI wF_X4_22 (by decide) (by decide) rfl rfl h2 dX4_empty_2 ?_
  exact y_vret rfl rfl rfl hf dX4_empty_5
abbrev LX4_isFull (G : Gm) (p : Program) (l : Launch) (e : Env) (s : State) (m : MethodId) (args : Array Value) (below : List Frame) (meth : Method) (c : Code) (r : Int32 × Mu) (pc : Nat) (lv : List (Nat × Value)) (st : List Value) (μ : Mu) : Prop := Lt G p l e { frames := 0, cells := 0, slots := 0, locals := 40 * (0) } s m args below meth c cX4_isFull 1 RX4 (some .boolean) "isFull" (MQ below (Qm G (some (.int r.1)) r.2 0) args s 0 0 (fA G)) 0 0 pc lv st μ
def fX4_isFull (a : Nat) (μ : Mu) : Option (Int32 × Mu) := grd (isO 4 a μ) ((gI 4 a 0 μ).bind fun x1 =>
    (gR 4 a 2 μ).bind fun x3 =>
    (aN 11 x3 μ).bind fun x5 =>
    (if x1 < x5 then
    some (0, μ)
    else
    some (1, μ)))
set_option maxRecDepth 20000 in
theorem tX4_isFull {G : Gm} {l : Launch} {r : Int32 × Mu} (a : Nat) (μ : Mu) (hf : fX4_isFull a μ = some r) : Mt G l yX4_isFull cX4_isFull 1 (some .boolean) (0) 0 0 [.ref (gB G + a)] μ (some (.int r.1)) r.2 := by
  rw [fX4_isFull] at hf
  have hf := grd_v hf
  refine Mt.of (by decide) (Nat.le_of_ble_eq_true rfl) (fun p e s m args below meth c => ?_)
  show LX4_isFull G p l e s m args below meth c r 0 [(0, .ref (gB G + a))] [] μ
  refine x_aload_n 0 dX4_isFull_0 rfl ?_
  obtain ⟨x1, h2, hf⟩ := bnd hf
  refine x_getI wF_X4_22 (by decide) (by decide) rfl h2 dX4_isFull_1 ?_
  refine x_aload_n 0 dX4_isFull_4 rfl ?_
  obtain ⟨x3, h4, hf⟩ := bnd hf
  refine x_getR wF_X4_15 (by decide) (by decide) rfl h4 dX4_isFull_5 ?_
  obtain ⟨x5, h6, hf⟩ := bnd hf
  refine x_alenG h6 dX4_isFull_8 ?_
  refine x_icmp_lt 16 dX4_isFull_9 rfl (fun c7 => ?_) (fun c7 => ?_)
  · rw [if_pos c7] at hf
    refine x_iconst 0 dX4_isFull_16 (by decide) ?_
    exact y_zret rfl (by decide) rfl rfl hf dX4_isFull_17
  · rw [if_neg c7] at hf
    refine x_iconst 1 dX4_isFull_12 (by decide) ?_
    refine x_goto 17 dX4_isFull_13 rfl ?_
    exact y_zret rfl (by decide) rfl rfl hf dX4_isFull_17
abbrev LX4_slotAt (G : Gm) (p : Program) (l : Launch) (e : Env) (s : State) (m : MethodId) (args : Array Value) (below : List Frame) (meth : Method) (c : Code) (r : Option Nat × Mu) (pc : Nat) (lv : List (Nat × Value)) (st : List Value) (μ : Mu) : Prop := Lt G p l e { frames := 0, cells := 0, slots := 0, locals := 40 * (0) } s m args below meth c cX4_slotAt 2 RX4 (some (.object "HourGreen$Green")) "slotAt" (MQ below (Qm G (some (va_rf (r.1.map (fun b => gB G + b)))) r.2 0) args s 0 0 (fA G)) 0 0 pc lv st μ
def fX4_slotAt (a : Nat) (u1 : Int32) (μ : Mu) : Option (Option Nat × Mu) := grd (isO 4 a μ) ((if u1 < 0 then
    some (none, μ)
    else
    (gR 4 a 2 μ).bind fun x2 =>
    (aN 11 x2 μ).bind fun x4 =>
    (if x4 ≤ u1 then
    some (none, μ)
    else
    (gR 4 a 2 μ).bind fun x7 =>
    (aR x7 u1 μ).bind fun x9 =>
    some (some x9, μ))))
set_option maxRecDepth 20000 in
theorem tX4_slotAt {G : Gm} {l : Launch} {r : Option Nat × Mu} (a : Nat) (u1 : Int32) (μ : Mu) (hf : fX4_slotAt a u1 μ = some r) : Mt G l yX4_slotAt cX4_slotAt 2 (some (.object "HourGreen$Green")) (0) 0 0 [.ref (gB G + a), .int u1] μ (some (va_rf (r.1.map (fun b => gB G + b)))) r.2 := by
  rw [fX4_slotAt] at hf
  have hf := grd_v hf
  refine Mt.of (by decide) (Nat.le_of_ble_eq_true rfl) (fun p e s m args below meth c => ?_)
  show LX4_slotAt G p l e s m args below meth c r 0 [(0, .ref (gB G + a)), (1, .int u1)] [] μ
  refine x_iload_n 1 dX4_slotAt_0 rfl ?_
  refine x_if_lt 22 dX4_slotAt_1 rfl (fun c1 => ?_) (fun c1 => ?_)
  · rw [if_pos c1] at hf
    refine x_null dX4_slotAt_22 ?_
    exact y_aretN rfl rfl rfl hf dX4_slotAt_23
  · rw [if_neg c1] at hf
    refine x_iload_n 1 dX4_slotAt_4 rfl ?_
    refine x_aload_n 0 dX4_slotAt_5 rfl ?_
    obtain ⟨x2, h3, hf⟩ := bnd hf
    refine x_getR wF_X4_15 (by decide) (by decide) rfl h3 dX4_slotAt_6 ?_
    obtain ⟨x4, h5, hf⟩ := bnd hf
    refine x_alenG h5 dX4_slotAt_9 ?_
    refine x_icmp_ge 22 dX4_slotAt_10 rfl (fun c6 => ?_) (fun c6 => ?_)
    · rw [if_pos c6] at hf
      refine x_null dX4_slotAt_22 ?_
      exact y_aretN rfl rfl rfl hf dX4_slotAt_23
    · rw [if_neg c6] at hf
      refine x_aload_n 0 dX4_slotAt_13 rfl ?_
      obtain ⟨x7, h8, hf⟩ := bnd hf
      refine x_getR wF_X4_15 (by decide) (by decide) rfl h8 dX4_slotAt_14 ?_
      refine x_iload_n 1 dX4_slotAt_17 rfl ?_
      obtain ⟨x9, h10, hf⟩ := bnd hf
      refine x_aald h10 dX4_slotAt_18 ?_
      refine x_goto 23 dX4_slotAt_19 rfl ?_
      exact y_aret rfl rfl rfl hf dX4_slotAt_23
abbrev LX4_store (G : Gm) (p : Program) (l : Launch) (e : Env) (s : State) (m : MethodId) (args : Array Value) (below : List Frame) (meth : Method) (c : Code) (r : Mu) (pc : Nat) (lv : List (Nat × Value)) (st : List Value) (μ : Mu) : Prop := Lt G p l e { frames := 1, cells := 0, slots := 0, locals := 40 * (1) } s m args below meth c cX4_store 3 RX4 none "store" (MQ below (Qm G none r 0) args s 0 0 (fA G)) 0 0 pc lv st μ
def fX4_store_44 (v0 : Nat) (s0 : Nat) (s1 : Int32) (μ : Mu) : Option (Mu) := (pI 4 s0 1 s1 μ).bind fun m16 =>
    (fX4_isFull v0  m16).bind fun q18 =>
    (if q18.1 = 0 then
    (gI 4 v0 0 q18.2).bind fun x21 =>
    (pI 4 v0 0 (x21 + 1) q18.2).bind fun m23 =>
    some m23
    else
    some q18.2)
set_option maxRecDepth 20000 in
theorem tX4_store_44 {G : Gm} {p : Program} {l : Launch} {e : Env} {s : State} {m : MethodId} {args : Array Value} {below : List Frame} {meth : Method} {c : Code} {r : Mu} (v0 : Nat) (s0 : Nat) (s1 : Int32) (μ : Mu) (hf : fX4_store_44 v0 s0 s1 μ = some r) : LX4_store G p l e s m args below meth c r 44 [(0, .ref (gB G + v0))] [.int s1, .ref (gB G + s0)] μ := by
  rw [fX4_store_44] at hf
  obtain ⟨m16, h17, hf⟩ := bnd hf
  refine x_putI wF_X4_26 (by decide) (by decide) rfl rfl h17 dX4_store_44 ?_
  refine x_aload_n 0 dX4_store_47 rfl ?_
  obtain ⟨q18, h19, hf⟩ := bnd hf
  refine x_callVi (rest := []) [] (tX4_isFull v0  m16 h19) wY_X4_isFull wI_X4_isFull wS_X4_isFull wL_X4_37 (grd_p h19) (by decide) rfl rfl (Nat.le_of_ble_eq_true rfl) ⟨Nat.le_of_ble_eq_true rfl, Nat.le_of_ble_eq_true rfl⟩ ⟨Nat.le_refl _, Nat.le_refl _⟩ dX4_store_48 ?_
  refine x_if_ne 64 dX4_store_51 rfl (fun c20 => ?_) (fun c20 => ?_)
  · rw [if_neg c20] at hf
    exact y_vret rfl rfl rfl hf dX4_store_64
  · rw [if_pos c20] at hf
    refine x_aload_n 0 dX4_store_54 rfl ?_
    refine x_dup dX4_store_55 rfl ?_
    obtain ⟨x21, h22, hf⟩ := bnd hf
    refine x_getI wF_X4_22 (by decide) (by decide) rfl h22 dX4_store_56 ?_
    refine x_iconst 1 dX4_store_59 (by decide) ?_
    refine x_iadd dX4_store_60 ?_
    obtain ⟨m23, h24, hf⟩ := bnd hf
    refine x_putI wF_X4_22 (by decide) (by decide) rfl rfl h24 dX4_store_61 ?_
    exact y_vret rfl rfl rfl hf dX4_store_64
def fX4_store (a : Nat) (u1 : Nat) (μ : Mu) : Option (Mu) := grd (isO 4 a μ) ((gI 4 a 1 μ).bind fun x1 =>
    (fX4_slotAt a x1 μ).bind fun q3 =>
    (q3.1).elim (some q3.2) fun x5 =>
    (fX0_copyFrom x5 u1 q3.2).bind fun q7 =>
    (gI 4 a 1 q7).bind fun x9 =>
    (gR 4 a 2 q7).bind fun x11 =>
    (aN 11 x11 q7).bind fun x13 =>
    (if x13 ≤ (x9 + 1) then
    fX4_store_44  a a 0 q7
    else
    (gI 4 a 1 q7).bind fun x25 =>
    fX4_store_44  a a (x25 + 1) q7))
set_option maxRecDepth 20000 in
theorem tX4_store {G : Gm} {l : Launch} {r : Mu} (a : Nat) (u1 : Nat) (μ : Mu) (hf : fX4_store a u1 μ = some r) : Mt G l yX4_store cX4_store 3 none (1) 0 0 [.ref (gB G + a), .ref (gB G + u1)] μ none r := by
  rw [fX4_store] at hf
  have hf := grd_v hf
  refine Mt.of (by decide) (Nat.le_of_ble_eq_true rfl) (fun p e s m args below meth c => ?_)
  show LX4_store G p l e s m args below meth c r 0 [(0, .ref (gB G + a)), (1, .ref (gB G + u1))] [] μ
  refine x_aload_n 0 dX4_store_0 rfl ?_
  refine x_aload_n 0 dX4_store_1 rfl ?_
  obtain ⟨x1, h2, hf⟩ := bnd hf
  refine x_getI wF_X4_26 (by decide) (by decide) rfl h2 dX4_store_2 ?_
  obtain ⟨q3, h4, hf⟩ := bnd hf
  obtain ⟨_ | x5, m6⟩ := q3
  · have hf : (some m6) = some r := hf
    refine x_callVq (rest := []) [.int x1] (tX4_slotAt a x1 μ h4) wY_X4_slotAt wI_X4_slotAt wS_X4_slotAt wL_X4_29 (grd_p h4) (by decide) rfl rfl (Nat.le_of_ble_eq_true rfl) ⟨Nat.le_of_ble_eq_true rfl, Nat.le_of_ble_eq_true rfl⟩ ⟨Nat.le_refl _, Nat.le_refl _⟩ dX4_store_5 ?_
    refine x_astore_nN [1, 2, 0] dX4_store_8 (by decide) (lv' := [(0, .ref (gB G + a)), (1, .ref (gB G + u1)), (2, .null)]) rfl ?_
    refine x_aload_nN 2 dX4_store_9 rfl ?_
    refine x_ifnonnullN dX4_store_10 ?_
    exact y_vret rfl rfl rfl hf dX4_store_13
  · have hf : ((fX0_copyFrom x5 u1 m6).bind fun q7 =>
    (gI 4 a 1 q7).bind fun x9 =>
    (gR 4 a 2 q7).bind fun x11 =>
    (aN 11 x11 q7).bind fun x13 =>
    (if x13 ≤ (x9 + 1) then
    fX4_store_44  a a 0 q7
    else
    (gI 4 a 1 q7).bind fun x25 =>
    fX4_store_44  a a (x25 + 1) q7)) = some r := hf
    refine x_callVq (rest := []) [.int x1] (tX4_slotAt a x1 μ h4) wY_X4_slotAt wI_X4_slotAt wS_X4_slotAt wL_X4_29 (grd_p h4) (by decide) rfl rfl (Nat.le_of_ble_eq_true rfl) ⟨Nat.le_of_ble_eq_true rfl, Nat.le_of_ble_eq_true rfl⟩ ⟨Nat.le_refl _, Nat.le_refl _⟩ dX4_store_5 ?_
    refine x_astore_n [1, 2, 0] dX4_store_8 (by decide) (lv' := [(0, .ref (gB G + a)), (1, .ref (gB G + u1)), (2, .ref (gB G + x5))]) rfl ?_
    refine x_aload_n 2 dX4_store_9 rfl ?_
    refine x_ifnonnull 14 dX4_store_10 rfl ?_
    refine x_aload_n 2 dX4_store_14 rfl ?_
    refine x_aload_n 1 dX4_store_15 rfl ?_
    obtain ⟨q7, h8, hf⟩ := bnd hf
    refine x_callVv (rest := []) [.ref (gB G + u1)] (tX0_copyFrom x5 u1 m6 h8) wY_X0_copyFrom wI_X0_copyFrom wS_X0_copyFrom wL_X4_33 (grd_p h8) (by decide) rfl rfl (Nat.le_of_ble_eq_true rfl) ⟨Nat.le_of_ble_eq_true rfl, Nat.le_of_ble_eq_true rfl⟩ ⟨Nat.le_refl _, Nat.le_refl _⟩ dX4_store_16 ?_
    refine x_aload_n 0 dX4_store_19 rfl ?_
    refine x_aload_n 0 dX4_store_20 rfl ?_
    obtain ⟨x9, h10, hf⟩ := bnd hf
    refine x_getI wF_X4_26 (by decide) (by decide) rfl h10 dX4_store_21 ?_
    refine x_iconst 1 dX4_store_24 (by decide) ?_
    refine x_iadd dX4_store_25 ?_
    refine x_aload_n 0 dX4_store_26 rfl ?_
    obtain ⟨x11, h12, hf⟩ := bnd hf
    refine x_getR wF_X4_15 (by decide) (by decide) rfl h12 dX4_store_27 ?_
    obtain ⟨x13, h14, hf⟩ := bnd hf
    refine x_alenG h14 dX4_store_30 ?_
    refine x_icmp_ge 43 dX4_store_31 rfl (fun c15 => ?_) (fun c15 => ?_)
    · rw [if_pos c15] at hf
      refine x_iconst 0 dX4_store_43 (by decide) ?_
      refine x_sub [0] (lv' := [(0, .ref (gB G + a))]) rfl ?_
      exact tX4_store_44  a a 0 q7 hf
    · rw [if_neg c15] at hf
      refine x_aload_n 0 dX4_store_34 rfl ?_
      obtain ⟨x25, h26, hf⟩ := bnd hf
      refine x_getI wF_X4_26 (by decide) (by decide) rfl h26 dX4_store_35 ?_
      refine x_iconst 1 dX4_store_38 (by decide) ?_
      refine x_iadd dX4_store_39 ?_
      refine x_goto 44 dX4_store_40 rfl ?_
      refine x_sub [0] (lv' := [(0, .ref (gB G + a))]) rfl ?_
      exact tX4_store_44  a a (x25 + 1) q7 hf
abbrev LX4_fetchInto (G : Gm) (p : Program) (l : Launch) (e : Env) (s : State) (m : MethodId) (args : Array Value) (below : List Frame) (meth : Method) (c : Code) (r : Int32 × Mu) (pc : Nat) (lv : List (Nat × Value)) (st : List Value) (μ : Mu) : Prop := Lt G p l e { frames := 1, cells := 0, slots := 0, locals := 40 * (1) } s m args below meth c cX4_fetchInto 4 RX4 (some .boolean) "fetchInto" (MQ below (Qm G (some (.int r.1)) r.2 0) args s 0 0 (fA G)) 0 0 pc lv st μ
def fX4_fetchInto_23 (v0 : Nat) (v1 : Nat) (s0 : Int32) (μ : Mu) : Option (Int32 × Mu) := (fX4_slotAt v0 s0 μ).bind fun q8 =>
    (q8.1).elim ((gI 4 v0 0 q8.2).bind fun x12 =>
    (if x12 = 0 then
    some (0, q8.2)
    else
    some (0, q8.2))) fun x10 =>
    (gI 4 v0 0 q8.2).bind fun x15 =>
    (if x15 = 0 then
    some (0, q8.2)
    else
    (fX0_copyFrom v1 x10 q8.2).bind fun q18 =>
    (pI 4 v0 1 s0 q18).bind fun m20 =>
    (gI 4 v0 0 m20).bind fun x22 =>
    (pI 4 v0 0 (x22 - 1) m20).bind fun m24 =>
    some (1, m24))
set_option maxRecDepth 20000 in
theorem tX4_fetchInto_23 {G : Gm} {p : Program} {l : Launch} {e : Env} {s : State} {m : MethodId} {args : Array Value} {below : List Frame} {meth : Method} {c : Code} {r : Int32 × Mu} (v0 : Nat) (v1 : Nat) (s0 : Int32) (μ : Mu) (hf : fX4_fetchInto_23 v0 v1 s0 μ = some r) : LX4_fetchInto G p l e s m args below meth c r 23 [(0, .ref (gB G + v0)), (1, .ref (gB G + v1))] [.int s0] μ := by
  rw [fX4_fetchInto_23] at hf
  refine x_istore_n [1, 2, 0] dX4_fetchInto_23 (by decide) (lv' := [(0, .ref (gB G + v0)), (1, .ref (gB G + v1)), (2, .int s0)]) rfl ?_
  refine x_aload_n 0 dX4_fetchInto_24 rfl ?_
  refine x_iload_n 2 dX4_fetchInto_25 rfl ?_
  obtain ⟨q8, h9, hf⟩ := bnd hf
  obtain ⟨_ | x10, m11⟩ := q8
  · have hf : ((gI 4 v0 0 m11).bind fun x12 =>
    (if x12 = 0 then
    some (0, m11)
    else
    some (0, m11))) = some r := hf
    refine x_callVq (rest := []) [.int s0] (tX4_slotAt v0 s0 μ h9) wY_X4_slotAt wI_X4_slotAt wS_X4_slotAt wL_X4_29 (grd_p h9) (by decide) rfl rfl (Nat.le_of_ble_eq_true rfl) ⟨Nat.le_of_ble_eq_true rfl, Nat.le_of_ble_eq_true rfl⟩ ⟨Nat.le_refl _, Nat.le_refl _⟩ dX4_fetchInto_26 ?_
    refine x_astore_nN [1, 2, 3, 0] dX4_fetchInto_29 (by decide) (lv' := [(0, .ref (gB G + v0)), (1, .ref (gB G + v1)), (2, .int s0), (3, .null)]) rfl ?_
    refine x_aload_n 0 dX4_fetchInto_30 rfl ?_
    obtain ⟨x12, h13, hf⟩ := bnd hf
    refine x_getI wF_X4_22 (by decide) (by decide) rfl h13 dX4_fetchInto_31 ?_
    refine x_if_eq 41 dX4_fetchInto_34 rfl (fun c14 => ?_) (fun c14 => ?_)
    · rw [if_pos c14] at hf
      refine x_iconst 0 dX4_fetchInto_41 (by decide) ?_
      exact y_zret rfl (by decide) rfl rfl hf dX4_fetchInto_42
    · rw [if_neg c14] at hf
      refine x_aload_nN 3 dX4_fetchInto_37 rfl ?_
      refine x_ifnonnullN dX4_fetchInto_38 ?_
      refine x_iconst 0 dX4_fetchInto_41 (by decide) ?_
      exact y_zret rfl (by decide) rfl rfl hf dX4_fetchInto_42
  · have hf : ((gI 4 v0 0 m11).bind fun x15 =>
    (if x15 = 0 then
    some (0, m11)
    else
    (fX0_copyFrom v1 x10 m11).bind fun q18 =>
    (pI 4 v0 1 s0 q18).bind fun m20 =>
    (gI 4 v0 0 m20).bind fun x22 =>
    (pI 4 v0 0 (x22 - 1) m20).bind fun m24 =>
    some (1, m24))) = some r := hf
    refine x_callVq (rest := []) [.int s0] (tX4_slotAt v0 s0 μ h9) wY_X4_slotAt wI_X4_slotAt wS_X4_slotAt wL_X4_29 (grd_p h9) (by decide) rfl rfl (Nat.le_of_ble_eq_true rfl) ⟨Nat.le_of_ble_eq_true rfl, Nat.le_of_ble_eq_true rfl⟩ ⟨Nat.le_refl _, Nat.le_refl _⟩ dX4_fetchInto_26 ?_
    refine x_astore_n [1, 2, 3, 0] dX4_fetchInto_29 (by decide) (lv' := [(0, .ref (gB G + v0)), (1, .ref (gB G + v1)), (2, .int s0), (3, .ref (gB G + x10))]) rfl ?_
    refine x_aload_n 0 dX4_fetchInto_30 rfl ?_
    obtain ⟨x15, h16, hf⟩ := bnd hf
    refine x_getI wF_X4_22 (by decide) (by decide) rfl h16 dX4_fetchInto_31 ?_
    refine x_if_eq 41 dX4_fetchInto_34 rfl (fun c17 => ?_) (fun c17 => ?_)
    · rw [if_pos c17] at hf
      refine x_iconst 0 dX4_fetchInto_41 (by decide) ?_
      exact y_zret rfl (by decide) rfl rfl hf dX4_fetchInto_42
    · rw [if_neg c17] at hf
      refine x_aload_n 3 dX4_fetchInto_37 rfl ?_
      refine x_ifnonnull 43 dX4_fetchInto_38 rfl ?_
      refine x_aload_n 1 dX4_fetchInto_43 rfl ?_
      refine x_aload_n 3 dX4_fetchInto_44 rfl ?_
      obtain ⟨q18, h19, hf⟩ := bnd hf
      refine x_callVv (rest := []) [.ref (gB G + x10)] (tX0_copyFrom v1 x10 m11 h19) wY_X0_copyFrom wI_X0_copyFrom wS_X0_copyFrom wL_X4_33 (grd_p h19) (by decide) rfl rfl (Nat.le_of_ble_eq_true rfl) ⟨Nat.le_of_ble_eq_true rfl, Nat.le_of_ble_eq_true rfl⟩ ⟨Nat.le_refl _, Nat.le_refl _⟩ dX4_fetchInto_45 ?_
      refine x_aload_n 0 dX4_fetchInto_48 rfl ?_
      refine x_iload_n 2 dX4_fetchInto_49 rfl ?_
      obtain ⟨m20, h21, hf⟩ := bnd hf
      refine x_putI wF_X4_26 (by decide) (by decide) rfl rfl h21 dX4_fetchInto_50 ?_
      refine x_aload_n 0 dX4_fetchInto_53 rfl ?_
      refine x_dup dX4_fetchInto_54 rfl ?_
      obtain ⟨x22, h23, hf⟩ := bnd hf
      refine x_getI wF_X4_22 (by decide) (by decide) rfl h23 dX4_fetchInto_55 ?_
      refine x_iconst 1 dX4_fetchInto_58 (by decide) ?_
      refine x_isub dX4_fetchInto_59 ?_
      obtain ⟨m24, h25, hf⟩ := bnd hf
      refine x_putI wF_X4_22 (by decide) (by decide) rfl rfl h25 dX4_fetchInto_60 ?_
      refine x_iconst 1 dX4_fetchInto_63 (by decide) ?_
      exact y_zret rfl (by decide) rfl rfl hf dX4_fetchInto_64
def fX4_fetchInto (a : Nat) (u1 : Nat) (μ : Mu) : Option (Int32 × Mu) := grd (isO 4 a μ) ((gI 4 a 1 μ).bind fun x1 =>
    (if x1 ≤ 0 then
    (gR 4 a 2 μ).bind fun x4 =>
    (aN 11 x4 μ).bind fun x6 =>
    fX4_fetchInto_23  a u1 (x6 - 1) μ
    else
    (gI 4 a 1 μ).bind fun x26 =>
    fX4_fetchInto_23  a u1 (x26 - 1) μ))
set_option maxRecDepth 20000 in
theorem tX4_fetchInto {G : Gm} {l : Launch} {r : Int32 × Mu} (a : Nat) (u1 : Nat) (μ : Mu) (hf : fX4_fetchInto a u1 μ = some r) : Mt G l yX4_fetchInto cX4_fetchInto 4 (some .boolean) (1) 0 0 [.ref (gB G + a), .ref (gB G + u1)] μ (some (.int r.1)) r.2 := by
  rw [fX4_fetchInto] at hf
  have hf := grd_v hf
  refine Mt.of (by decide) (Nat.le_of_ble_eq_true rfl) (fun p e s m args below meth c => ?_)
  show LX4_fetchInto G p l e s m args below meth c r 0 [(0, .ref (gB G + a)), (1, .ref (gB G + u1))] [] μ
  refine x_aload_n 0 dX4_fetchInto_0 rfl ?_
  obtain ⟨x1, h2, hf⟩ := bnd hf
  refine x_getI wF_X4_26 (by decide) (by decide) rfl h2 dX4_fetchInto_1 ?_
  refine x_if_le 16 dX4_fetchInto_4 rfl (fun c3 => ?_) (fun c3 => ?_)
  · rw [if_pos c3] at hf
    refine x_aload_n 0 dX4_fetchInto_16 rfl ?_
    obtain ⟨x4, h5, hf⟩ := bnd hf
    refine x_getR wF_X4_15 (by decide) (by decide) rfl h5 dX4_fetchInto_17 ?_
    obtain ⟨x6, h7, hf⟩ := bnd hf
    refine x_alenG h7 dX4_fetchInto_20 ?_
    refine x_iconst 1 dX4_fetchInto_21 (by decide) ?_
    refine x_isub dX4_fetchInto_22 ?_
    exact tX4_fetchInto_23  a u1 (x6 - 1) μ hf
  · rw [if_neg c3] at hf
    refine x_aload_n 0 dX4_fetchInto_7 rfl ?_
    obtain ⟨x26, h27, hf⟩ := bnd hf
    refine x_getI wF_X4_26 (by decide) (by decide) rfl h27 dX4_fetchInto_8 ?_
    refine x_iconst 1 dX4_fetchInto_11 (by decide) ?_
    refine x_isub dX4_fetchInto_12 ?_
    refine x_goto 23 dX4_fetchInto_13 rfl ?_
    exact tX4_fetchInto_23  a u1 (x26 - 1) μ hf
abbrev LX5_add (G : Gm) (p : Program) (l : Launch) (e : Env) (s : State) (m : MethodId) (args : Array Value) (below : List Frame) (meth : Method) (c : Code) (r : Int32 × Mu) (pc : Nat) (lv : List (Nat × Value)) (st : List Value) (μ : Mu) : Prop := Lt G p l e { frames := 0, cells := 0, slots := 0, locals := 40 * (0) } s m args below meth c cX5_add 4 RX5 (some .boolean) "add" (MQ below (Qm G (some (.int r.1)) r.2 0) args s 0 0 (fA G)) 0 0 pc lv st μ
def fX5_add (a : Nat) (u1 : Int32) (u2 : Int32) (u3 : Int32) (μ : Mu) : Option (Int32 × Mu) := grd (isO 5 a μ) ((gI 5 a 0 μ).bind fun x1 =>
    (if x1 < 6 then
    (gR 5 a 1 μ).bind fun x4 =>
    (gI 5 a 0 μ).bind fun x6 =>
    (bI 8 x4 x6 u1 μ).bind fun m8 =>
    (gR 5 a 2 m8).bind fun x10 =>
    (gI 5 a 0 m8).bind fun x12 =>
    (bI 8 x10 x12 u2 m8).bind fun m14 =>
    (gR 5 a 3 m14).bind fun x16 =>
    (gI 5 a 0 m14).bind fun x18 =>
    (bI 10 x16 x18 u3 m14).bind fun m20 =>
    (gI 5 a 0 m20).bind fun x22 =>
    (pI 5 a 0 (x22 + 1) m20).bind fun m24 =>
    some (1, m24)
    else
    some (0, μ)))
set_option maxRecDepth 20000 in
theorem tX5_add {G : Gm} {l : Launch} {r : Int32 × Mu} (a : Nat) (u1 : Int32) (u2 : Int32) (u3 : Int32) (μ : Mu) (hf : fX5_add a u1 u2 u3 μ = some r) : Mt G l yX5_add cX5_add 4 (some .boolean) (0) 0 0 [.ref (gB G + a), .int u1, .int u2, .int u3] μ (some (.int r.1)) r.2 := by
  rw [fX5_add] at hf
  have hf := grd_v hf
  refine Mt.of (by decide) (Nat.le_of_ble_eq_true rfl) (fun p e s m args below meth c => ?_)
  show LX5_add G p l e s m args below meth c r 0 [(0, .ref (gB G + a)), (1, .int u1), (2, .int u2), (3, .int u3)] [] μ
  refine x_aload_n 0 dX5_add_0 rfl ?_
  obtain ⟨x1, h2, hf⟩ := bnd hf
  refine x_getI wF_X5_22 (by decide) (by decide) rfl h2 dX5_add_1 ?_
  refine x_bipush 6 dX5_add_4 (by decide) ?_
  refine x_icmp_lt 11 dX5_add_6 rfl (fun c3 => ?_) (fun c3 => ?_)
  · rw [if_pos c3] at hf
    refine x_aload_n 0 dX5_add_11 rfl ?_
    obtain ⟨x4, h5, hf⟩ := bnd hf
    refine x_getR wF_X5_11 (by decide) (by decide) rfl h5 dX5_add_12 ?_
    refine x_aload_n 0 dX5_add_15 rfl ?_
    obtain ⟨x6, h7, hf⟩ := bnd hf
    refine x_getI wF_X5_22 (by decide) (by decide) rfl h7 dX5_add_16 ?_
    refine x_iload_n 1 dX5_add_19 rfl ?_
    obtain ⟨m8, h9, hf⟩ := bnd hf
    refine x_iast h9 dX5_add_20 ?_
    refine x_aload_n 0 dX5_add_21 rfl ?_
    obtain ⟨x10, h11, hf⟩ := bnd hf
    refine x_getR wF_X5_15 (by decide) (by decide) rfl h11 dX5_add_22 ?_
    refine x_aload_n 0 dX5_add_25 rfl ?_
    obtain ⟨x12, h13, hf⟩ := bnd hf
    refine x_getI wF_X5_22 (by decide) (by decide) rfl h13 dX5_add_26 ?_
    refine x_iload_n 2 dX5_add_29 rfl ?_
    obtain ⟨m14, h15, hf⟩ := bnd hf
    refine x_iast h15 dX5_add_30 ?_
    refine x_aload_n 0 dX5_add_31 rfl ?_
    obtain ⟨x16, h17, hf⟩ := bnd hf
    refine x_getR wF_X5_18 (by decide) (by decide) rfl h17 dX5_add_32 ?_
    refine x_aload_n 0 dX5_add_35 rfl ?_
    obtain ⟨x18, h19, hf⟩ := bnd hf
    refine x_getI wF_X5_22 (by decide) (by decide) rfl h19 dX5_add_36 ?_
    refine x_iload_n 3 dX5_add_39 rfl ?_
    obtain ⟨m20, h21, hf⟩ := bnd hf
    refine x_zast h21 dX5_add_40 ?_
    refine x_aload_n 0 dX5_add_41 rfl ?_
    refine x_dup dX5_add_42 rfl ?_
    obtain ⟨x22, h23, hf⟩ := bnd hf
    refine x_getI wF_X5_22 (by decide) (by decide) rfl h23 dX5_add_43 ?_
    refine x_iconst 1 dX5_add_46 (by decide) ?_
    refine x_iadd dX5_add_47 ?_
    obtain ⟨m24, h25, hf⟩ := bnd hf
    refine x_putI wF_X5_22 (by decide) (by decide) rfl rfl h25 dX5_add_48 ?_
    refine x_iconst 1 dX5_add_51 (by decide) ?_
    exact y_zret rfl (by decide) rfl rfl hf dX5_add_52
  · rw [if_neg c3] at hf
    refine x_iconst 0 dX5_add_9 (by decide) ?_
    exact y_zret rfl (by decide) rfl rfl hf dX5_add_10
abbrev LX5_empty (G : Gm) (p : Program) (l : Launch) (e : Env) (s : State) (m : MethodId) (args : Array Value) (below : List Frame) (meth : Method) (c : Code) (r : Int32 × Mu) (pc : Nat) (lv : List (Nat × Value)) (st : List Value) (μ : Mu) : Prop := Lt G p l e { frames := 0, cells := 0, slots := 0, locals := 40 * (0) } s m args below meth c cX5_empty 2 RX5 (some .int) "empty" (MQ below (Qm G (some (.int r.1)) r.2 0) args s 0 0 (fA G)) 0 0 pc lv st μ
def fX5_empty (a : Nat) (μ : Mu) : Option (Int32 × Mu) := grd (isO 5 a μ) ((gI 5 a 0 μ).bind fun x1 =>
    (pI 5 a 0 0 μ).bind fun m3 =>
    some (x1, m3))
set_option maxRecDepth 20000 in
theorem tX5_empty {G : Gm} {l : Launch} {r : Int32 × Mu} (a : Nat) (μ : Mu) (hf : fX5_empty a μ = some r) : Mt G l yX5_empty cX5_empty 2 (some .int) (0) 0 0 [.ref (gB G + a)] μ (some (.int r.1)) r.2 := by
  rw [fX5_empty] at hf
  have hf := grd_v hf
  refine Mt.of (by decide) (Nat.le_of_ble_eq_true rfl) (fun p e s m args below meth c => ?_)
  show LX5_empty G p l e s m args below meth c r 0 [(0, .ref (gB G + a))] [] μ
  refine x_aload_n 0 dX5_empty_0 rfl ?_
  obtain ⟨x1, h2, hf⟩ := bnd hf
  refine x_getI wF_X5_22 (by decide) (by decide) rfl h2 dX5_empty_1 ?_
  refine x_istore_n [1, 0] dX5_empty_4 (by decide) (lv' := [(0, .ref (gB G + a)), (1, .int x1)]) rfl ?_
  refine x_aload_n 0 dX5_empty_5 rfl ?_
  refine x_iconst 0 dX5_empty_6 (by decide) ?_
  obtain ⟨m3, h4, hf⟩ := bnd hf
  refine x_putI wF_X5_22 (by decide) (by decide) rfl rfl h4 dX5_empty_7 ?_
  refine x_iload_n 1 dX5_empty_10 rfl ?_
  exact y_iret rfl rfl rfl hf dX5_empty_11
abbrev LX5_comeTrueIn (G : Gm) (p : Program) (l : Launch) (e : Env) (s : State) (m : MethodId) (args : Array Value) (below : List Frame) (meth : Method) (c : Code) (r : Int32 × Mu) (pc : Nat) (lv : List (Nat × Value)) (st : List Value) (μ : Mu) : Prop := Lt G p l e { frames := 3, cells := 0, slots := 0, locals := 40 * (3) } s m args below meth c cX5_comeTrueIn 4 RX5 (some .boolean) "comeTrueIn" (MQ below (Qm G (some (.int r.1)) r.2 0) args s 0 0 (fA G)) 0 0 pc lv st μ
def fX5_comeTrueIn_10 (k2 : Nat → Nat → Int32 → Mu → Option (Int32 × Mu)) : Nat → Nat → Nat → Int32 → Int32 → Mu → Option (Int32 × Mu)
  | 0, _, _, _, _, _ => none
  | n + 1, v0, v1, v2, v3, μ => (gI 5 v0 0 μ).bind fun x2 =>
    (if x2 ≤ v3 then
    (fX0_passYears v1 1 μ).bind fun q5 =>
    k2 v0 v1 (v2 + 1) q5.2
    else
    (if 6 ≤ v3 then
    (fX0_passYears v1 1 μ).bind fun q8 =>
    k2 v0 v1 (v2 + 1) q8.2
    else
    (gR 5 v0 1 μ).bind fun x10 =>
    (aI 8 x10 v3 μ).bind fun x12 =>
    (if x12 = v2 then
    (gR 5 v0 2 μ).bind fun x15 =>
    (aI 8 x15 v3 μ).bind fun x17 =>
    (fX0_lies v1 x17 μ).bind fun q19 =>
    (gR 5 v0 3 q19.2).bind fun x21 =>
    (aI 10 x21 v3 q19.2).bind fun x23 =>
    (if q19.1 = x23 then
    some (0, q19.2)
    else
    (fX5_comeTrueIn_10 k2 n) v0 v1 v2 (v3 + 1) q19.2)
    else
    (fX5_comeTrueIn_10 k2 n) v0 v1 v2 (v3 + 1) μ)))
set_option maxRecDepth 20000 in
theorem tX5_comeTrueIn_10 {G : Gm} {p : Program} {l : Launch} {e : Env} {s : State} {m : MethodId} {args : Array Value} {below : List Frame} {meth : Method} {c : Code} {r : Int32 × Mu} {k2 : Nat → Nat → Int32 → Mu → Option (Int32 × Mu)} (hk2 : ∀ (v0 : Nat) (v1 : Nat) (v2 : Int32) (μ : Mu), k2 v0 v1 v2 μ = some r → LX5_comeTrueIn G p l e s m args below meth c r 2 [(0, .ref (gB G + v0)), (1, .ref (gB G + v1)), (2, .int v2)] [] μ) : ∀ (n : Nat) (v0 : Nat) (v1 : Nat) (v2 : Int32) (v3 : Int32) (μ : Mu), fX5_comeTrueIn_10 k2 n v0 v1 v2 v3 μ = some r → LX5_comeTrueIn G p l e s m args below meth c r 10 [(0, .ref (gB G + v0)), (1, .ref (gB G + v1)), (2, .int v2), (3, .int v3)] [] μ := by
  intro n
  induction n with
  | zero =>
    intro v0 v1 v2 v3 μ hf
    simp [fX5_comeTrueIn_10] at hf
  | succ n ih =>
    intro v0 v1 v2 v3 μ hf
    rw [fX5_comeTrueIn_10] at hf
    refine x_iload_n 3 dX5_comeTrueIn_10 rfl ?_
    refine x_aload_n 0 dX5_comeTrueIn_11 rfl ?_
    obtain ⟨x2, h3, hf⟩ := bnd hf
    refine x_getI wF_X5_22 (by decide) (by decide) rfl h3 dX5_comeTrueIn_12 ?_
    refine x_icmp_ge 61 dX5_comeTrueIn_15 rfl (fun c4 => ?_) (fun c4 => ?_)
    · rw [if_pos c4] at hf
      refine x_aload_n 1 dX5_comeTrueIn_61 rfl ?_
      refine x_iconst 1 dX5_comeTrueIn_62 (by decide) ?_
      obtain ⟨q5, h6, hf⟩ := bnd hf
      refine x_callVi (rest := []) [.int 1] (tX0_passYears v1 1 μ h6) wY_X0_passYears wI_X0_passYears wS_X0_passYears wL_X5_32 (grd_p h6) (by decide) rfl rfl (Nat.le_of_ble_eq_true rfl) ⟨Nat.le_of_ble_eq_true rfl, Nat.le_of_ble_eq_true rfl⟩ ⟨Nat.le_refl _, Nat.le_refl _⟩ dX5_comeTrueIn_63 ?_
      refine x_pop dX5_comeTrueIn_66 rfl ?_
      refine x_iinc 2 (v2 + 1) [1, 2, 0, 3] dX5_comeTrueIn_67 rfl rfl (by decide) (lv' := [(0, .ref (gB G + v0)), (1, .ref (gB G + v1)), (2, .int (v2 + 1)), (3, .int v3)]) rfl ?_
      refine x_goto 2 dX5_comeTrueIn_70 rfl ?_
      refine x_sub [0, 1, 2] (lv' := [(0, .ref (gB G + v0)), (1, .ref (gB G + v1)), (2, .int (v2 + 1))]) rfl ?_
      exact hk2 v0 v1 (v2 + 1) q5.2 hf
    · rw [if_neg c4] at hf
      refine x_iload_n 3 dX5_comeTrueIn_18 rfl ?_
      refine x_bipush 6 dX5_comeTrueIn_19 (by decide) ?_
      refine x_icmp_ge 61 dX5_comeTrueIn_21 rfl (fun c7 => ?_) (fun c7 => ?_)
      · rw [if_pos c7] at hf
        refine x_aload_n 1 dX5_comeTrueIn_61 rfl ?_
        refine x_iconst 1 dX5_comeTrueIn_62 (by decide) ?_
        obtain ⟨q8, h9, hf⟩ := bnd hf
        refine x_callVi (rest := []) [.int 1] (tX0_passYears v1 1 μ h9) wY_X0_passYears wI_X0_passYears wS_X0_passYears wL_X5_32 (grd_p h9) (by decide) rfl rfl (Nat.le_of_ble_eq_true rfl) ⟨Nat.le_of_ble_eq_true rfl, Nat.le_of_ble_eq_true rfl⟩ ⟨Nat.le_refl _, Nat.le_refl _⟩ dX5_comeTrueIn_63 ?_
        refine x_pop dX5_comeTrueIn_66 rfl ?_
        refine x_iinc 2 (v2 + 1) [1, 2, 0, 3] dX5_comeTrueIn_67 rfl rfl (by decide) (lv' := [(0, .ref (gB G + v0)), (1, .ref (gB G + v1)), (2, .int (v2 + 1)), (3, .int v3)]) rfl ?_
        refine x_goto 2 dX5_comeTrueIn_70 rfl ?_
        refine x_sub [0, 1, 2] (lv' := [(0, .ref (gB G + v0)), (1, .ref (gB G + v1)), (2, .int (v2 + 1))]) rfl ?_
        exact hk2 v0 v1 (v2 + 1) q8.2 hf
      · rw [if_neg c7] at hf
        refine x_aload_n 0 dX5_comeTrueIn_24 rfl ?_
        obtain ⟨x10, h11, hf⟩ := bnd hf
        refine x_getR wF_X5_11 (by decide) (by decide) rfl h11 dX5_comeTrueIn_25 ?_
        refine x_iload_n 3 dX5_comeTrueIn_28 rfl ?_
        obtain ⟨x12, h13, hf⟩ := bnd hf
        refine x_iald h13 dX5_comeTrueIn_29 ?_
        refine x_iload_n 2 dX5_comeTrueIn_30 rfl ?_
        refine x_icmp_ne 55 dX5_comeTrueIn_31 rfl (fun c14 => ?_) (fun c14 => ?_)
        · rw [if_neg c14] at hf
          refine x_iinc 3 (v3 + 1) [1, 2, 3, 0] dX5_comeTrueIn_55 rfl rfl (by decide) (lv' := [(0, .ref (gB G + v0)), (1, .ref (gB G + v1)), (2, .int v2), (3, .int (v3 + 1))]) rfl ?_
          refine x_goto 10 dX5_comeTrueIn_58 rfl ?_
          exact ih v0 v1 v2 (v3 + 1) μ hf
        · rw [if_pos c14] at hf
          refine x_aload_n 1 dX5_comeTrueIn_34 rfl ?_
          refine x_aload_n 0 dX5_comeTrueIn_35 rfl ?_
          obtain ⟨x15, h16, hf⟩ := bnd hf
          refine x_getR wF_X5_15 (by decide) (by decide) rfl h16 dX5_comeTrueIn_36 ?_
          refine x_iload_n 3 dX5_comeTrueIn_39 rfl ?_
          obtain ⟨x17, h18, hf⟩ := bnd hf
          refine x_iald h18 dX5_comeTrueIn_40 ?_
          obtain ⟨q19, h20, hf⟩ := bnd hf
          refine x_callVi (rest := []) [.int x17] (tX0_lies v1 x17 μ h20) wY_X0_lies wI_X0_lies wS_X0_lies wL_X5_26 (grd_p h20) (by decide) rfl rfl (Nat.le_of_ble_eq_true rfl) ⟨Nat.le_of_ble_eq_true rfl, Nat.le_of_ble_eq_true rfl⟩ ⟨Nat.le_refl _, Nat.le_refl _⟩ dX5_comeTrueIn_41 ?_
          refine x_aload_n 0 dX5_comeTrueIn_44 rfl ?_
          obtain ⟨x21, h22, hf⟩ := bnd hf
          refine x_getR wF_X5_18 (by decide) (by decide) rfl h22 dX5_comeTrueIn_45 ?_
          refine x_iload_n 3 dX5_comeTrueIn_48 rfl ?_
          obtain ⟨x23, h24, hf⟩ := bnd hf
          refine x_zald h24 dX5_comeTrueIn_49 ?_
          refine x_icmp_ne 55 dX5_comeTrueIn_50 rfl (fun c25 => ?_) (fun c25 => ?_)
          · rw [if_neg c25] at hf
            refine x_iinc 3 (v3 + 1) [1, 2, 3, 0] dX5_comeTrueIn_55 rfl rfl (by decide) (lv' := [(0, .ref (gB G + v0)), (1, .ref (gB G + v1)), (2, .int v2), (3, .int (v3 + 1))]) rfl ?_
            refine x_goto 10 dX5_comeTrueIn_58 rfl ?_
            exact ih v0 v1 v2 (v3 + 1) q19.2 hf
          · rw [if_pos c25] at hf
            refine x_iconst 0 dX5_comeTrueIn_53 (by decide) ?_
            exact y_zret rfl (by decide) rfl rfl hf dX5_comeTrueIn_54
def fX5_comeTrueIn_2 : Nat → Nat → Nat → Int32 → Mu → Option (Int32 × Mu)
  | 0, _, _, _, _ => none
  | n + 1, v0, v1, v2, μ => (if 20 < v2 then
    some (1, μ)
    else
    fX5_comeTrueIn_10 (fX5_comeTrueIn_2 n) FU v0 v1 v2 0 μ)
set_option maxRecDepth 20000 in
theorem tX5_comeTrueIn_2 {G : Gm} {p : Program} {l : Launch} {e : Env} {s : State} {m : MethodId} {args : Array Value} {below : List Frame} {meth : Method} {c : Code} {r : Int32 × Mu} : ∀ (n : Nat) (v0 : Nat) (v1 : Nat) (v2 : Int32) (μ : Mu), fX5_comeTrueIn_2 n v0 v1 v2 μ = some r → LX5_comeTrueIn G p l e s m args below meth c r 2 [(0, .ref (gB G + v0)), (1, .ref (gB G + v1)), (2, .int v2)] [] μ := by
  intro n
  induction n with
  | zero =>
    intro v0 v1 v2 μ hf
    simp [fX5_comeTrueIn_2] at hf
  | succ n ih =>
    intro v0 v1 v2 μ hf
    rw [fX5_comeTrueIn_2] at hf
    refine x_iload_n 2 dX5_comeTrueIn_2 rfl ?_
    refine x_bipush 20 dX5_comeTrueIn_3 (by decide) ?_
    refine x_icmp_gt 73 dX5_comeTrueIn_5 rfl (fun c1 => ?_) (fun c1 => ?_)
    · rw [if_pos c1] at hf
      refine x_iconst 1 dX5_comeTrueIn_73 (by decide) ?_
      exact y_zret rfl (by decide) rfl rfl hf dX5_comeTrueIn_74
    · rw [if_neg c1] at hf
      refine x_iconst 0 dX5_comeTrueIn_8 (by decide) ?_
      refine x_istore_n [1, 2, 3, 0] dX5_comeTrueIn_9 (by decide) (lv' := [(0, .ref (gB G + v0)), (1, .ref (gB G + v1)), (2, .int v2), (3, .int 0)]) rfl ?_
      exact tX5_comeTrueIn_10 ih FU v0 v1 v2 0 μ hf
def fX5_comeTrueIn (a : Nat) (u1 : Nat) (μ : Mu) : Option (Int32 × Mu) := grd (isO 5 a μ) (fX5_comeTrueIn_2  FU a u1 0 μ)
set_option maxRecDepth 20000 in
theorem tX5_comeTrueIn {G : Gm} {l : Launch} {r : Int32 × Mu} (a : Nat) (u1 : Nat) (μ : Mu) (hf : fX5_comeTrueIn a u1 μ = some r) : Mt G l yX5_comeTrueIn cX5_comeTrueIn 4 (some .boolean) (3) 0 0 [.ref (gB G + a), .ref (gB G + u1)] μ (some (.int r.1)) r.2 := by
  rw [fX5_comeTrueIn] at hf
  have hf := grd_v hf
  refine Mt.of (by decide) (Nat.le_of_ble_eq_true rfl) (fun p e s m args below meth c => ?_)
  show LX5_comeTrueIn G p l e s m args below meth c r 0 [(0, .ref (gB G + a)), (1, .ref (gB G + u1))] [] μ
  refine x_iconst 0 dX5_comeTrueIn_0 (by decide) ?_
  refine x_istore_n [1, 2, 0] dX5_comeTrueIn_1 (by decide) (lv' := [(0, .ref (gB G + a)), (1, .ref (gB G + u1)), (2, .int 0)]) rfl ?_
  exact tX5_comeTrueIn_2  FU a u1 0 μ hf
