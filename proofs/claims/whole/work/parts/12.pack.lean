abbrev LX2_lookAhead (G : Gm) (p : Program) (l : Launch) (e : Env) (s : State) (m : MethodId) (args : Array Value) (below : List Frame) (meth : Method) (c : Code) (r : Mu) (pc : Nat) (lv : List (Nat × Value)) (st : List Value) (μ : Mu) : Prop := Lt G p l e { frames := 2, cells := 0, slots := 0, locals := 40 * 2 } s m args below meth c cX2_lookAhead 6 RX2 none "lookAhead" (MQ below (Qm G none r 0) args s 0 0 (fA G)) 0 0 pc lv st μ
def fX2_lookAhead_122 (k24 : Nat → Nat → Int32 → Int32 → Int32 → Mu → Option (Mu)) (v0 : Nat) (v1 : Nat) (v2 : Int32) (v3 : Int32) (v4 : Int32) (s0 : Nat) (s1 : Int32) (s2 : Int32) (s3 : Int32) (μ : Mu) : Option (Mu) := (bI 8 s0 s1 (s2 + s3) μ).bind fun m22 =>
    (gR 2 v0 4 m22).bind fun x24 =>
    (bI 8 x24 v4 (v2 + v3) m22).bind fun m26 =>
    k24 v0 v1 v2 v3 (v4 + (-1)) m26
set_option maxRecDepth 20000 in
theorem tX2_lookAhead_122 {G : Gm} {p : Program} {l : Launch} {e : Env} {s : State} {m : MethodId} {args : Array Value} {below : List Frame} {meth : Method} {c : Code} {r : Mu} {k24 : Nat → Nat → Int32 → Int32 → Int32 → Mu → Option (Mu)} (hk24 : ∀ (v0 : Nat) (v1 : Nat) (v2 : Int32) (v3 : Int32) (v4 : Int32) (μ : Mu), k24 v0 v1 v2 v3 v4 μ = some r → LX2_lookAhead G p l e s m args below meth c r 24 [(0, .ref (gB G + v0)), (1, .ref (gB G + v1)), (2, .int v2), (3, .int v3), (4, .int v4)] [] μ) (v0 : Nat) (v1 : Nat) (v2 : Int32) (v3 : Int32) (v4 : Int32) (s0 : Nat) (s1 : Int32) (s2 : Int32) (s3 : Int32) (μ : Mu) (hf : fX2_lookAhead_122 k24 v0 v1 v2 v3 v4 s0 s1 s2 s3 μ = some r) : LX2_lookAhead G p l e s m args below meth c r 122 [(0, .ref (gB G + v0)), (1, .ref (gB G + v1)), (2, .int v2), (3, .int v3), (4, .int v4)] [.int s3, .int s2, .int s1, .ref (gB G + s0)] μ := by
  rw [fX2_lookAhead_122] at hf
  refine x_iadd dX2_lookAhead_122 ?_
  obtain ⟨m22, h23, hf⟩ := bnd hf
  refine x_iast h23 dX2_lookAhead_123 ?_
  refine x_aload_n 0 dX2_lookAhead_124 rfl ?_
  obtain ⟨x24, h25, hf⟩ := bnd hf
  refine x_getR wF_X2_22 (by decide) (by decide) rfl h25 dX2_lookAhead_125 ?_
  refine x_iload 4 dX2_lookAhead_128 rfl ?_
  refine x_iload_n 2 dX2_lookAhead_130 rfl ?_
  refine x_iload_n 3 dX2_lookAhead_131 rfl ?_
  refine x_iadd dX2_lookAhead_132 ?_
  obtain ⟨m26, h27, hf⟩ := bnd hf
  refine x_iast h27 dX2_lookAhead_133 ?_
  refine x_iinc 4 (v4 + (-1)) [1, 2, 3, 4, 0] dX2_lookAhead_134 rfl rfl (by decide) (lv' := [(0, .ref (gB G + v0)), (1, .ref (gB G + v1)), (2, .int v2), (3, .int v3), (4, .int (v4 + (-1)))]) rfl ?_
  refine x_goto 24 dX2_lookAhead_137 rfl ?_
  exact hk24 v0 v1 v2 v3 (v4 + (-1)) m26 hf
def fX2_lookAhead_92 (k24 : Nat → Nat → Int32 → Int32 → Int32 → Mu → Option (Mu)) (v0 : Nat) (v1 : Nat) (v2 : Int32) (v3 : Int32) (v4 : Int32) (v5 : Int32) (μ : Mu) : Option (Mu) := (gR 2 v0 3 μ).bind fun x15 =>
    (gR 2 v0 3 μ).bind fun x17 =>
    (aI 8 x17 (v4 + 1) μ).bind fun x19 =>
    (if v5 = 0 then
    fX2_lookAhead_122 k24 v0 v1 v2 v3 v4 x15 v4 x19 0 μ
    else
    (fX0_worthOf v1 v4 μ).bind fun q28 =>
    fX2_lookAhead_122 k24 v0 v1 v2 v3 v4 x15 v4 x19 q28.1 q28.2)
set_option maxRecDepth 20000 in
theorem tX2_lookAhead_92 {G : Gm} {p : Program} {l : Launch} {e : Env} {s : State} {m : MethodId} {args : Array Value} {below : List Frame} {meth : Method} {c : Code} {r : Mu} {k24 : Nat → Nat → Int32 → Int32 → Int32 → Mu → Option (Mu)} (hk24 : ∀ (v0 : Nat) (v1 : Nat) (v2 : Int32) (v3 : Int32) (v4 : Int32) (μ : Mu), k24 v0 v1 v2 v3 v4 μ = some r → LX2_lookAhead G p l e s m args below meth c r 24 [(0, .ref (gB G + v0)), (1, .ref (gB G + v1)), (2, .int v2), (3, .int v3), (4, .int v4)] [] μ) (v0 : Nat) (v1 : Nat) (v2 : Int32) (v3 : Int32) (v4 : Int32) (v5 : Int32) (μ : Mu) (hf : fX2_lookAhead_92 k24 v0 v1 v2 v3 v4 v5 μ = some r) : LX2_lookAhead G p l e s m args below meth c r 92 [(0, .ref (gB G + v0)), (1, .ref (gB G + v1)), (2, .int v2), (3, .int v3), (4, .int v4), (5, .int v5)] [] μ := by
  rw [fX2_lookAhead_92] at hf
  refine x_aload_n 0 dX2_lookAhead_92 rfl ?_
  obtain ⟨x15, h16, hf⟩ := bnd hf
  refine x_getR wF_X2_19 (by decide) (by decide) rfl h16 dX2_lookAhead_93 ?_
  refine x_iload 4 dX2_lookAhead_96 rfl ?_
  refine x_aload_n 0 dX2_lookAhead_98 rfl ?_
  obtain ⟨x17, h18, hf⟩ := bnd hf
  refine x_getR wF_X2_19 (by decide) (by decide) rfl h18 dX2_lookAhead_99 ?_
  refine x_iload 4 dX2_lookAhead_102 rfl ?_
  refine x_iconst 1 dX2_lookAhead_104 (by decide) ?_
  refine x_iadd dX2_lookAhead_105 ?_
  obtain ⟨x19, h20, hf⟩ := bnd hf
  refine x_iald h20 dX2_lookAhead_106 ?_
  refine x_iload 5 dX2_lookAhead_107 rfl ?_
  refine x_if_eq 121 dX2_lookAhead_109 rfl (fun c21 => ?_) (fun c21 => ?_)
  · rw [if_pos c21] at hf
    refine x_iconst 0 dX2_lookAhead_121 (by decide) ?_
    refine x_sub [0, 1, 2, 3, 4] (lv' := [(0, .ref (gB G + v0)), (1, .ref (gB G + v1)), (2, .int v2), (3, .int v3), (4, .int v4)]) rfl ?_
    exact tX2_lookAhead_122 hk24 v0 v1 v2 v3 v4 x15 v4 x19 0 μ hf
  · rw [if_neg c21] at hf
    refine x_aload_n 1 dX2_lookAhead_112 rfl ?_
    refine x_iload 4 dX2_lookAhead_113 rfl ?_
    obtain ⟨q28, h29, hf⟩ := bnd hf
    refine x_callVi (rest := [.int x19, .int v4, .ref (gB G + x15)]) [.int v4] (tX0_worthOf v1 v4 μ h29) wY_X0_worthOf wI_X0_worthOf wS_X0_worthOf wL_X2_66 (grd_p h29) (by decide) rfl rfl (Nat.le_of_ble_eq_true rfl) ⟨Nat.le_of_ble_eq_true rfl, Nat.le_of_ble_eq_true rfl⟩ ⟨Nat.le_refl _, Nat.le_refl _⟩ dX2_lookAhead_115 ?_
    refine x_goto 122 dX2_lookAhead_118 rfl ?_
    refine x_sub [0, 1, 2, 3, 4] (lv' := [(0, .ref (gB G + v0)), (1, .ref (gB G + v1)), (2, .int v2), (3, .int v3), (4, .int v4)]) rfl ?_
    exact tX2_lookAhead_122 hk24 v0 v1 v2 v3 v4 x15 v4 x19 q28.1 q28.2 hf
def fX2_lookAhead_74 (k24 : Nat → Nat → Int32 → Int32 → Int32 → Mu → Option (Mu)) (v0 : Nat) (v1 : Nat) (v2 : Int32) (v3 : Int32) (v4 : Int32) (v5 : Int32) (μ : Mu) : Option (Mu) := (if v5 = 0 then
    fX2_lookAhead_92 k24 v0 v1 v2 v3 v4 v5 μ
    else
    (fX0_kindOf v1 v4 μ).bind fun q30 =>
    (fX0_needAbove (-1) q30.1 q30.2).bind fun q32 =>
    fX2_lookAhead_92 k24 v0 v1 (v2 + q32.1) v3 v4 v5 q32.2)
set_option maxRecDepth 20000 in
theorem tX2_lookAhead_74 {G : Gm} {p : Program} {l : Launch} {e : Env} {s : State} {m : MethodId} {args : Array Value} {below : List Frame} {meth : Method} {c : Code} {r : Mu} {k24 : Nat → Nat → Int32 → Int32 → Int32 → Mu → Option (Mu)} (hk24 : ∀ (v0 : Nat) (v1 : Nat) (v2 : Int32) (v3 : Int32) (v4 : Int32) (μ : Mu), k24 v0 v1 v2 v3 v4 μ = some r → LX2_lookAhead G p l e s m args below meth c r 24 [(0, .ref (gB G + v0)), (1, .ref (gB G + v1)), (2, .int v2), (3, .int v3), (4, .int v4)] [] μ) (v0 : Nat) (v1 : Nat) (v2 : Int32) (v3 : Int32) (v4 : Int32) (v5 : Int32) (μ : Mu) (hf : fX2_lookAhead_74 k24 v0 v1 v2 v3 v4 v5 μ = some r) : LX2_lookAhead G p l e s m args below meth c r 74 [(0, .ref (gB G + v0)), (1, .ref (gB G + v1)), (2, .int v2), (3, .int v3), (4, .int v4), (5, .int v5)] [] μ := by
  rw [fX2_lookAhead_74] at hf
  refine x_iload 5 dX2_lookAhead_74 rfl ?_
  refine x_if_eq 92 dX2_lookAhead_76 rfl (fun c14 => ?_) (fun c14 => ?_)
  · rw [if_pos c14] at hf
    exact tX2_lookAhead_92 hk24 v0 v1 v2 v3 v4 v5 μ hf
  · rw [if_neg c14] at hf
    refine x_iload_n 2 dX2_lookAhead_79 rfl ?_
    refine x_iconst (-1) dX2_lookAhead_80 (by decide) ?_
    refine x_aload_n 1 dX2_lookAhead_81 rfl ?_
    refine x_iload 4 dX2_lookAhead_82 rfl ?_
    obtain ⟨q30, h31, hf⟩ := bnd hf
    refine x_callVi (rest := [.int (-1), .int v2]) [.int v4] (tX0_kindOf v1 v4 μ h31) wY_X0_kindOf wI_X0_kindOf wS_X0_kindOf wL_X2_37 (grd_p h31) (by decide) rfl rfl (Nat.le_of_ble_eq_true rfl) ⟨Nat.le_of_ble_eq_true rfl, Nat.le_of_ble_eq_true rfl⟩ ⟨Nat.le_refl _, Nat.le_refl _⟩ dX2_lookAhead_84 ?_
    obtain ⟨q32, h33, hf⟩ := bnd hf
    refine x_callSi (rest := [.int v2]) [.int (-1), .int q30.1] (tX0_needAbove (-1) q30.1 q30.2 h33) wY_X0_needAbove wT_X0_needAbove wL_X2_62 rfl (Nat.le_of_ble_eq_true rfl) ⟨Nat.le_of_ble_eq_true rfl, Nat.le_of_ble_eq_true rfl⟩ ⟨Nat.le_refl _, Nat.le_refl _⟩ dX2_lookAhead_87 ?_
    refine x_iadd dX2_lookAhead_90 ?_
    refine x_istore_n [1, 2, 0, 3, 4, 5] dX2_lookAhead_91 (by decide) (lv' := [(0, .ref (gB G + v0)), (1, .ref (gB G + v1)), (2, .int (v2 + q32.1)), (3, .int v3), (4, .int v4), (5, .int v5)]) rfl ?_
    exact tX2_lookAhead_92 hk24 v0 v1 (v2 + q32.1) v3 v4 v5 q32.2 hf
def fX2_lookAhead_52 (k24 : Nat → Nat → Int32 → Int32 → Int32 → Mu → Option (Mu)) (v0 : Nat) (v1 : Nat) (v2 : Int32) (v3 : Int32) (v4 : Int32) (s0 : Int32) (μ : Mu) : Option (Mu) := (if s0 = 0 then
    fX2_lookAhead_74 k24 v0 v1 v2 v3 v4 s0 μ
    else
    (fX0_kindOf v1 v4 μ).bind fun q34 =>
    (if q34.1 = 3 then
    fX2_lookAhead_92 k24 v0 v1 v2 1 v4 s0 q34.2
    else
    fX2_lookAhead_74 k24 v0 v1 v2 v3 v4 s0 q34.2))
set_option maxRecDepth 20000 in
theorem tX2_lookAhead_52 {G : Gm} {p : Program} {l : Launch} {e : Env} {s : State} {m : MethodId} {args : Array Value} {below : List Frame} {meth : Method} {c : Code} {r : Mu} {k24 : Nat → Nat → Int32 → Int32 → Int32 → Mu → Option (Mu)} (hk24 : ∀ (v0 : Nat) (v1 : Nat) (v2 : Int32) (v3 : Int32) (v4 : Int32) (μ : Mu), k24 v0 v1 v2 v3 v4 μ = some r → LX2_lookAhead G p l e s m args below meth c r 24 [(0, .ref (gB G + v0)), (1, .ref (gB G + v1)), (2, .int v2), (3, .int v3), (4, .int v4)] [] μ) (v0 : Nat) (v1 : Nat) (v2 : Int32) (v3 : Int32) (v4 : Int32) (s0 : Int32) (μ : Mu) (hf : fX2_lookAhead_52 k24 v0 v1 v2 v3 v4 s0 μ = some r) : LX2_lookAhead G p l e s m args below meth c r 52 [(0, .ref (gB G + v0)), (1, .ref (gB G + v1)), (2, .int v2), (3, .int v3), (4, .int v4)] [.int s0] μ := by
  rw [fX2_lookAhead_52] at hf
  refine x_istore [1, 2, 3, 4, 5, 0] dX2_lookAhead_52 (by decide) (lv' := [(0, .ref (gB G + v0)), (1, .ref (gB G + v1)), (2, .int v2), (3, .int v3), (4, .int v4), (5, .int s0)]) rfl ?_
  refine x_iload 5 dX2_lookAhead_54 rfl ?_
  refine x_if_eq 74 dX2_lookAhead_56 rfl (fun c13 => ?_) (fun c13 => ?_)
  · rw [if_pos c13] at hf
    exact tX2_lookAhead_74 hk24 v0 v1 v2 v3 v4 s0 μ hf
  · rw [if_neg c13] at hf
    refine x_aload_n 1 dX2_lookAhead_59 rfl ?_
    refine x_iload 4 dX2_lookAhead_60 rfl ?_
    obtain ⟨q34, h35, hf⟩ := bnd hf
    refine x_callVi (rest := []) [.int v4] (tX0_kindOf v1 v4 μ h35) wY_X0_kindOf wI_X0_kindOf wS_X0_kindOf wL_X2_37 (grd_p h35) (by decide) rfl rfl (Nat.le_of_ble_eq_true rfl) ⟨Nat.le_of_ble_eq_true rfl, Nat.le_of_ble_eq_true rfl⟩ ⟨Nat.le_refl _, Nat.le_refl _⟩ dX2_lookAhead_62 ?_
    refine x_iconst 3 dX2_lookAhead_65 (by decide) ?_
    refine x_icmp_ne 74 dX2_lookAhead_66 rfl (fun c36 => ?_) (fun c36 => ?_)
    · rw [if_neg c36] at hf
      exact tX2_lookAhead_74 hk24 v0 v1 v2 v3 v4 s0 q34.2 hf
    · rw [if_pos c36] at hf
      refine x_iconst 1 dX2_lookAhead_69 (by decide) ?_
      refine x_istore_n [1, 2, 3, 0, 4, 5] dX2_lookAhead_70 (by decide) (lv' := [(0, .ref (gB G + v0)), (1, .ref (gB G + v1)), (2, .int v2), (3, .int 1), (4, .int v4), (5, .int s0)]) rfl ?_
      refine x_goto 92 dX2_lookAhead_71 rfl ?_
      exact tX2_lookAhead_92 hk24 v0 v1 v2 1 v4 s0 q34.2 hf
def fX2_lookAhead_24 : Nat → Nat → Nat → Int32 → Int32 → Int32 → Mu → Option (Mu)
  | 0, _, _, _, _, _, _ => none
  | n + 1, v0, v1, v2, v3, v4, μ => (if v4 < 0 then
    some μ
    else
    (fX0_hasHour v1 v4 μ).bind fun q10 =>
    (if q10.1 = 0 then
    fX2_lookAhead_52 (fX2_lookAhead_24 n) v0 v1 v2 v3 v4 0 q10.2
    else
    (fX0_lies v1 v4 q10.2).bind fun q37 =>
    (if q37.1 = 0 then
    fX2_lookAhead_52 (fX2_lookAhead_24 n) v0 v1 v2 v3 v4 1 q37.2
    else
    fX2_lookAhead_52 (fX2_lookAhead_24 n) v0 v1 v2 v3 v4 0 q37.2)))
set_option maxRecDepth 20000 in
theorem tX2_lookAhead_24 {G : Gm} {p : Program} {l : Launch} {e : Env} {s : State} {m : MethodId} {args : Array Value} {below : List Frame} {meth : Method} {c : Code} {r : Mu} : ∀ (n : Nat) (v0 : Nat) (v1 : Nat) (v2 : Int32) (v3 : Int32) (v4 : Int32) (μ : Mu), fX2_lookAhead_24 n v0 v1 v2 v3 v4 μ = some r → LX2_lookAhead G p l e s m args below meth c r 24 [(0, .ref (gB G + v0)), (1, .ref (gB G + v1)), (2, .int v2), (3, .int v3), (4, .int v4)] [] μ := by
  intro n
  induction n with
  | zero =>
    intro v0 v1 v2 v3 v4 μ hf
    simp [fX2_lookAhead_24] at hf
  | succ n ih =>
    intro v0 v1 v2 v3 v4 μ hf
    rw [fX2_lookAhead_24] at hf
    refine x_iload 4 dX2_lookAhead_24 rfl ?_
    refine x_if_lt 140 dX2_lookAhead_26 rfl (fun c9 => ?_) (fun c9 => ?_)
    · rw [if_pos c9] at hf
      exact y_vret rfl rfl rfl hf dX2_lookAhead_140
    · rw [if_neg c9] at hf
      refine x_aload_n 1 dX2_lookAhead_29 rfl ?_
      refine x_iload 4 dX2_lookAhead_30 rfl ?_
      obtain ⟨q10, h11, hf⟩ := bnd hf
      refine x_callVi (rest := []) [.int v4] (tX0_hasHour v1 v4 μ h11) wY_X0_hasHour wI_X0_hasHour wS_X0_hasHour wL_X2_55 (grd_p h11) (by decide) rfl rfl (Nat.le_of_ble_eq_true rfl) ⟨Nat.le_of_ble_eq_true rfl, Nat.le_of_ble_eq_true rfl⟩ ⟨Nat.le_refl _, Nat.le_refl _⟩ dX2_lookAhead_32 ?_
      refine x_if_eq 51 dX2_lookAhead_35 rfl (fun c12 => ?_) (fun c12 => ?_)
      · rw [if_pos c12] at hf
        refine x_iconst 0 dX2_lookAhead_51 (by decide) ?_
        exact tX2_lookAhead_52 ih v0 v1 v2 v3 v4 0 q10.2 hf
      · rw [if_neg c12] at hf
        refine x_aload_n 1 dX2_lookAhead_38 rfl ?_
        refine x_iload 4 dX2_lookAhead_39 rfl ?_
        obtain ⟨q37, h38, hf⟩ := bnd hf
        refine x_callVi (rest := []) [.int v4] (tX0_lies v1 v4 q10.2 h38) wY_X0_lies wI_X0_lies wS_X0_lies wL_X2_59 (grd_p h38) (by decide) rfl rfl (Nat.le_of_ble_eq_true rfl) ⟨Nat.le_of_ble_eq_true rfl, Nat.le_of_ble_eq_true rfl⟩ ⟨Nat.le_refl _, Nat.le_refl _⟩ dX2_lookAhead_41 ?_
        refine x_if_ne 51 dX2_lookAhead_44 rfl (fun c39 => ?_) (fun c39 => ?_)
        · rw [if_neg c39] at hf
          refine x_iconst 0 dX2_lookAhead_51 (by decide) ?_
          exact tX2_lookAhead_52 ih v0 v1 v2 v3 v4 0 q37.2 hf
        · rw [if_pos c39] at hf
          refine x_iconst 1 dX2_lookAhead_47 (by decide) ?_
          refine x_goto 52 dX2_lookAhead_48 rfl ?_
          exact tX2_lookAhead_52 ih v0 v1 v2 v3 v4 1 q37.2 hf
def fX2_lookAhead (a : Nat) (u1 : Nat) (μ : Mu) : Option (Mu) := grd (isO 2 a μ) ((gR 2 a 3 μ).bind fun x1 =>
    (bI 8 x1 7 0 μ).bind fun m3 =>
    (gR 2 a 4 m3).bind fun x5 =>
    (bI 8 x5 7 0 m3).bind fun m7 =>
    fX2_lookAhead_24  FU a u1 0 0 6 m7)
set_option maxRecDepth 20000 in
theorem tX2_lookAhead {G : Gm} {l : Launch} {r : Mu} (a : Nat) (u1 : Nat) (μ : Mu) (hf : fX2_lookAhead a u1 μ = some r) : Mt G l yX2_lookAhead cX2_lookAhead 6 none 2 0 0 [.ref (gB G + a), .ref (gB G + u1)] μ none r := by
  rw [fX2_lookAhead] at hf
  have hf := grd_v hf
  refine Mt.of (by decide) (Nat.le_of_ble_eq_true rfl) (fun p e s m args below meth c => ?_)
  show LX2_lookAhead G p l e s m args below meth c r 0 [(0, .ref (gB G + a)), (1, .ref (gB G + u1))] [] μ
  refine x_iconst 0 dX2_lookAhead_0 (by decide) ?_
  refine x_istore_n [1, 2, 0] dX2_lookAhead_1 (by decide) (lv' := [(0, .ref (gB G + a)), (1, .ref (gB G + u1)), (2, .int 0)]) rfl ?_
  refine x_iconst 0 dX2_lookAhead_2 (by decide) ?_
  refine x_istore_n [1, 2, 3, 0] dX2_lookAhead_3 (by decide) (lv' := [(0, .ref (gB G + a)), (1, .ref (gB G + u1)), (2, .int 0), (3, .int 0)]) rfl ?_
  refine x_aload_n 0 dX2_lookAhead_4 rfl ?_
  obtain ⟨x1, h2, hf⟩ := bnd hf
  refine x_getR wF_X2_19 (by decide) (by decide) rfl h2 dX2_lookAhead_5 ?_
  refine x_bipush 7 dX2_lookAhead_8 (by decide) ?_
  refine x_iconst 0 dX2_lookAhead_10 (by decide) ?_
  obtain ⟨m3, h4, hf⟩ := bnd hf
  refine x_iast h4 dX2_lookAhead_11 ?_
  refine x_aload_n 0 dX2_lookAhead_12 rfl ?_
  obtain ⟨x5, h6, hf⟩ := bnd hf
  refine x_getR wF_X2_22 (by decide) (by decide) rfl h6 dX2_lookAhead_13 ?_
  refine x_bipush 7 dX2_lookAhead_16 (by decide) ?_
  refine x_iconst 0 dX2_lookAhead_18 (by decide) ?_
  obtain ⟨m7, h8, hf⟩ := bnd hf
  refine x_iast h8 dX2_lookAhead_19 ?_
  refine x_bipush 6 dX2_lookAhead_20 (by decide) ?_
  refine x_istore [1, 2, 3, 4, 0] dX2_lookAhead_22 (by decide) (lv' := [(0, .ref (gB G + a)), (1, .ref (gB G + u1)), (2, .int 0), (3, .int 0), (4, .int 6)]) rfl ?_
  exact tX2_lookAhead_24  FU a u1 0 0 6 m7 hf
abbrev LX2_placeOf (G : Gm) (p : Program) (l : Launch) (e : Env) (s : State) (m : MethodId) (args : Array Value) (below : List Frame) (meth : Method) (c : Code) (r : Int32 × Mu) (pc : Nat) (lv : List (Nat × Value)) (st : List Value) (μ : Mu) : Prop := Lt G p l e { frames := 0, cells := 0, slots := 0, locals := 40 * 0 } s m args below meth c cX2_placeOf 2 RX2 (some .int) "placeOf" (MQ below (Qm G (some (.int r.1)) r.2 0) args s 0 0 (fA G)) 0 0 pc lv st μ
def fX2_placeOf (a : Nat) (u1 : Int32) (μ : Mu) : Option (Int32 × Mu) := grd (isO 2 a μ) ((if u1 < 0 then
    some ((-4), μ)
    else
    (if 7 ≤ u1 then
    some ((-4), μ)
    else
    (gR 2 a 6 μ).bind fun x3 =>
    (aI 8 x3 u1 μ).bind fun x5 =>
    some (x5, μ))))
set_option maxRecDepth 20000 in
theorem tX2_placeOf {G : Gm} {l : Launch} {r : Int32 × Mu} (a : Nat) (u1 : Int32) (μ : Mu) (hf : fX2_placeOf a u1 μ = some r) : Mt G l yX2_placeOf cX2_placeOf 2 (some .int) 0 0 0 [.ref (gB G + a), .int u1] μ (some (.int r.1)) r.2 := by
  rw [fX2_placeOf] at hf
  have hf := grd_v hf
  refine Mt.of (by decide) (Nat.le_of_ble_eq_true rfl) (fun p e s m args below meth c => ?_)
  show LX2_placeOf G p l e s m args below meth c r 0 [(0, .ref (gB G + a)), (1, .int u1)] [] μ
  refine x_iload_n 1 dX2_placeOf_0 rfl ?_
  refine x_if_lt 19 dX2_placeOf_1 rfl (fun c1 => ?_) (fun c1 => ?_)
  · rw [if_pos c1] at hf
    refine x_bipush (-4) dX2_placeOf_19 (by decide) ?_
    exact y_iret rfl rfl rfl hf dX2_placeOf_21
  · rw [if_neg c1] at hf
    refine x_iload_n 1 dX2_placeOf_4 rfl ?_
    refine x_bipush 7 dX2_placeOf_5 (by decide) ?_
    refine x_icmp_ge 19 dX2_placeOf_7 rfl (fun c2 => ?_) (fun c2 => ?_)
    · rw [if_pos c2] at hf
      refine x_bipush (-4) dX2_placeOf_19 (by decide) ?_
      exact y_iret rfl rfl rfl hf dX2_placeOf_21
    · rw [if_neg c2] at hf
      refine x_aload_n 0 dX2_placeOf_10 rfl ?_
      obtain ⟨x3, h4, hf⟩ := bnd hf
      refine x_getR wF_X2_28 (by decide) (by decide) rfl h4 dX2_placeOf_11 ?_
      refine x_iload_n 1 dX2_placeOf_14 rfl ?_
      obtain ⟨x5, h6, hf⟩ := bnd hf
      refine x_iald h6 dX2_placeOf_15 ?_
      refine x_goto 21 dX2_placeOf_16 rfl ?_
      exact y_iret rfl rfl rfl hf dX2_placeOf_21
abbrev LX2_hasTwinAhead (G : Gm) (p : Program) (l : Launch) (e : Env) (s : State) (m : MethodId) (args : Array Value) (below : List Frame) (meth : Method) (c : Code) (r : Int32 × Mu) (pc : Nat) (lv : List (Nat × Value)) (st : List Value) (μ : Mu) : Prop := Lt G p l e { frames := 0, cells := 0, slots := 0, locals := 40 * 0 } s m args below meth c cX2_hasTwinAhead 5 RX2 (some .boolean) "hasTwinAhead" (MQ below (Qm G (some (.int r.1)) r.2 0) args s 0 0 (fA G)) 0 0 pc lv st μ
def fX2_hasTwinAhead_37 (k2 : Nat → Int32 → Int32 → Int32 → Mu → Option (Int32 × Mu)) (v0 : Nat) (v1 : Int32) (v2 : Int32) (v3 : Int32) (s0 : Int32) (μ : Mu) : Option (Int32 × Mu) := (if s0 = 0 then
    (gR 2 v0 1 μ).bind fun x9 =>
    (aI 8 x9 v3 μ).bind fun x11 =>
    (gR 2 v0 1 μ).bind fun x13 =>
    (aI 8 x13 v1 μ).bind fun x15 =>
    (if x11 = x15 then
    (gR 2 v0 2 μ).bind fun x18 =>
    (aI 10 x18 v3 μ).bind fun x20 =>
    (gR 2 v0 2 μ).bind fun x22 =>
    (aI 10 x22 v1 μ).bind fun x24 =>
    (if x20 = x24 then
    some (1, μ)
    else
    k2 v0 v1 v2 (v3 + 1) μ)
    else
    k2 v0 v1 v2 (v3 + 1) μ)
    else
    some (1, μ))
set_option maxRecDepth 20000 in
theorem tX2_hasTwinAhead_37 {G : Gm} {p : Program} {l : Launch} {e : Env} {s : State} {m : MethodId} {args : Array Value} {below : List Frame} {meth : Method} {c : Code} {r : Int32 × Mu} {k2 : Nat → Int32 → Int32 → Int32 → Mu → Option (Int32 × Mu)} (hk2 : ∀ (v0 : Nat) (v1 : Int32) (v2 : Int32) (v3 : Int32) (μ : Mu), k2 v0 v1 v2 v3 μ = some r → LX2_hasTwinAhead G p l e s m args below meth c r 2 [(0, .ref (gB G + v0)), (1, .int v1), (2, .int v2), (3, .int v3)] [] μ) (v0 : Nat) (v1 : Int32) (v2 : Int32) (v3 : Int32) (s0 : Int32) (μ : Mu) (hf : fX2_hasTwinAhead_37 k2 v0 v1 v2 v3 s0 μ = some r) : LX2_hasTwinAhead G p l e s m args below meth c r 37 [(0, .ref (gB G + v0)), (1, .int v1), (2, .int v2), (3, .int v3)] [.int s0] μ := by
  rw [fX2_hasTwinAhead_37] at hf
  refine x_istore [1, 2, 3, 4, 0] dX2_hasTwinAhead_37 (by decide) (lv' := [(0, .ref (gB G + v0)), (1, .int v1), (2, .int v2), (3, .int v3), (4, .int s0)]) rfl ?_
  refine x_iload 4 dX2_hasTwinAhead_39 rfl ?_
  refine x_if_ne 74 dX2_hasTwinAhead_41 rfl (fun c8 => ?_) (fun c8 => ?_)
  · rw [if_neg c8] at hf
    refine x_iconst 1 dX2_hasTwinAhead_74 (by decide) ?_
    exact y_zret rfl (by decide) rfl rfl hf dX2_hasTwinAhead_75
  · rw [if_pos c8] at hf
    refine x_aload_n 0 dX2_hasTwinAhead_44 rfl ?_
    obtain ⟨x9, h10, hf⟩ := bnd hf
    refine x_getR wF_X2_9 (by decide) (by decide) rfl h10 dX2_hasTwinAhead_45 ?_
    refine x_iload_n 3 dX2_hasTwinAhead_48 rfl ?_
    obtain ⟨x11, h12, hf⟩ := bnd hf
    refine x_iald h12 dX2_hasTwinAhead_49 ?_
    refine x_aload_n 0 dX2_hasTwinAhead_50 rfl ?_
    obtain ⟨x13, h14, hf⟩ := bnd hf
    refine x_getR wF_X2_9 (by decide) (by decide) rfl h14 dX2_hasTwinAhead_51 ?_
    refine x_iload_n 1 dX2_hasTwinAhead_54 rfl ?_
    obtain ⟨x15, h16, hf⟩ := bnd hf
    refine x_iald h16 dX2_hasTwinAhead_55 ?_
    refine x_icmp_ne 76 dX2_hasTwinAhead_56 rfl (fun c17 => ?_) (fun c17 => ?_)
    · rw [if_neg c17] at hf
      refine x_iinc 3 (v3 + 1) [1, 2, 3, 0, 4] dX2_hasTwinAhead_76 rfl rfl (by decide) (lv' := [(0, .ref (gB G + v0)), (1, .int v1), (2, .int v2), (3, .int (v3 + 1)), (4, .int s0)]) rfl ?_
      refine x_goto 2 dX2_hasTwinAhead_79 rfl ?_
      refine x_sub [0, 1, 2, 3] (lv' := [(0, .ref (gB G + v0)), (1, .int v1), (2, .int v2), (3, .int (v3 + 1))]) rfl ?_
      exact hk2 v0 v1 v2 (v3 + 1) μ hf
    · rw [if_pos c17] at hf
      refine x_aload_n 0 dX2_hasTwinAhead_59 rfl ?_
      obtain ⟨x18, h19, hf⟩ := bnd hf
      refine x_getR wF_X2_15 (by decide) (by decide) rfl h19 dX2_hasTwinAhead_60 ?_
      refine x_iload_n 3 dX2_hasTwinAhead_63 rfl ?_
      obtain ⟨x20, h21, hf⟩ := bnd hf
      refine x_zald h21 dX2_hasTwinAhead_64 ?_
      refine x_aload_n 0 dX2_hasTwinAhead_65 rfl ?_
      obtain ⟨x22, h23, hf⟩ := bnd hf
      refine x_getR wF_X2_15 (by decide) (by decide) rfl h23 dX2_hasTwinAhead_66 ?_
      refine x_iload_n 1 dX2_hasTwinAhead_69 rfl ?_
      obtain ⟨x24, h25, hf⟩ := bnd hf
      refine x_zald h25 dX2_hasTwinAhead_70 ?_
      refine x_icmp_ne 76 dX2_hasTwinAhead_71 rfl (fun c26 => ?_) (fun c26 => ?_)
      · rw [if_neg c26] at hf
        refine x_iinc 3 (v3 + 1) [1, 2, 3, 0, 4] dX2_hasTwinAhead_76 rfl rfl (by decide) (lv' := [(0, .ref (gB G + v0)), (1, .int v1), (2, .int v2), (3, .int (v3 + 1)), (4, .int s0)]) rfl ?_
        refine x_goto 2 dX2_hasTwinAhead_79 rfl ?_
        refine x_sub [0, 1, 2, 3] (lv' := [(0, .ref (gB G + v0)), (1, .int v1), (2, .int v2), (3, .int (v3 + 1))]) rfl ?_
        exact hk2 v0 v1 v2 (v3 + 1) μ hf
      · rw [if_pos c26] at hf
        refine x_iconst 1 dX2_hasTwinAhead_74 (by decide) ?_
        exact y_zret rfl (by decide) rfl rfl hf dX2_hasTwinAhead_75
def fX2_hasTwinAhead_2 : Nat → Nat → Int32 → Int32 → Int32 → Mu → Option (Int32 × Mu)
  | 0, _, _, _, _, _ => none
  | n + 1, v0, v1, v2, v3, μ => (if v1 ≤ v3 then
    some (0, μ)
    else
    (if 5 ≤ v3 then
    some (0, μ)
    else
    (gR 2 v0 1 μ).bind fun x3 =>
    (aI 8 x3 v3 μ).bind fun x5 =>
    (if x5 < v2 then
    fX2_hasTwinAhead_37 (fX2_hasTwinAhead_2 n) v0 v1 v2 v3 0 μ
    else
    (gR 2 v0 1 μ).bind fun x27 =>
    (aI 8 x27 v1 μ).bind fun x29 =>
    (if x29 < v2 then
    fX2_hasTwinAhead_37 (fX2_hasTwinAhead_2 n) v0 v1 v2 v3 0 μ
    else
    fX2_hasTwinAhead_37 (fX2_hasTwinAhead_2 n) v0 v1 v2 v3 1 μ))))
set_option maxRecDepth 20000 in
theorem tX2_hasTwinAhead_2 {G : Gm} {p : Program} {l : Launch} {e : Env} {s : State} {m : MethodId} {args : Array Value} {below : List Frame} {meth : Method} {c : Code} {r : Int32 × Mu} : ∀ (n : Nat) (v0 : Nat) (v1 : Int32) (v2 : Int32) (v3 : Int32) (μ : Mu), fX2_hasTwinAhead_2 n v0 v1 v2 v3 μ = some r → LX2_hasTwinAhead G p l e s m args below meth c r 2 [(0, .ref (gB G + v0)), (1, .int v1), (2, .int v2), (3, .int v3)] [] μ := by
  intro n
  induction n with
  | zero =>
    intro v0 v1 v2 v3 μ hf
    simp [fX2_hasTwinAhead_2] at hf
  | succ n ih =>
    intro v0 v1 v2 v3 μ hf
    rw [fX2_hasTwinAhead_2] at hf
    refine x_iload_n 3 dX2_hasTwinAhead_2 rfl ?_
    refine x_iload_n 1 dX2_hasTwinAhead_3 rfl ?_
    refine x_icmp_ge 82 dX2_hasTwinAhead_4 rfl (fun c1 => ?_) (fun c1 => ?_)
    · rw [if_pos c1] at hf
      refine x_iconst 0 dX2_hasTwinAhead_82 (by decide) ?_
      exact y_zret rfl (by decide) rfl rfl hf dX2_hasTwinAhead_83
    · rw [if_neg c1] at hf
      refine x_iload_n 3 dX2_hasTwinAhead_7 rfl ?_
      refine x_iconst 5 dX2_hasTwinAhead_8 (by decide) ?_
      refine x_icmp_ge 82 dX2_hasTwinAhead_9 rfl (fun c2 => ?_) (fun c2 => ?_)
      · rw [if_pos c2] at hf
        refine x_iconst 0 dX2_hasTwinAhead_82 (by decide) ?_
        exact y_zret rfl (by decide) rfl rfl hf dX2_hasTwinAhead_83
      · rw [if_neg c2] at hf
        refine x_aload_n 0 dX2_hasTwinAhead_12 rfl ?_
        obtain ⟨x3, h4, hf⟩ := bnd hf
        refine x_getR wF_X2_9 (by decide) (by decide) rfl h4 dX2_hasTwinAhead_13 ?_
        refine x_iload_n 3 dX2_hasTwinAhead_16 rfl ?_
        obtain ⟨x5, h6, hf⟩ := bnd hf
        refine x_iald h6 dX2_hasTwinAhead_17 ?_
        refine x_iload_n 2 dX2_hasTwinAhead_18 rfl ?_
        refine x_icmp_lt 36 dX2_hasTwinAhead_19 rfl (fun c7 => ?_) (fun c7 => ?_)
        · rw [if_pos c7] at hf
          refine x_iconst 0 dX2_hasTwinAhead_36 (by decide) ?_
          exact tX2_hasTwinAhead_37 ih v0 v1 v2 v3 0 μ hf
        · rw [if_neg c7] at hf
          refine x_aload_n 0 dX2_hasTwinAhead_22 rfl ?_
          obtain ⟨x27, h28, hf⟩ := bnd hf
          refine x_getR wF_X2_9 (by decide) (by decide) rfl h28 dX2_hasTwinAhead_23 ?_
          refine x_iload_n 1 dX2_hasTwinAhead_26 rfl ?_
          obtain ⟨x29, h30, hf⟩ := bnd hf
          refine x_iald h30 dX2_hasTwinAhead_27 ?_
          refine x_iload_n 2 dX2_hasTwinAhead_28 rfl ?_
          refine x_icmp_lt 36 dX2_hasTwinAhead_29 rfl (fun c31 => ?_) (fun c31 => ?_)
          · rw [if_pos c31] at hf
            refine x_iconst 0 dX2_hasTwinAhead_36 (by decide) ?_
            exact tX2_hasTwinAhead_37 ih v0 v1 v2 v3 0 μ hf
          · rw [if_neg c31] at hf
            refine x_iconst 1 dX2_hasTwinAhead_32 (by decide) ?_
            refine x_goto 37 dX2_hasTwinAhead_33 rfl ?_
            exact tX2_hasTwinAhead_37 ih v0 v1 v2 v3 1 μ hf
def fX2_hasTwinAhead (a : Nat) (u1 : Int32) (u2 : Int32) (μ : Mu) : Option (Int32 × Mu) := grd (isO 2 a μ) (fX2_hasTwinAhead_2  FU a u1 u2 0 μ)
set_option maxRecDepth 20000 in
theorem tX2_hasTwinAhead {G : Gm} {l : Launch} {r : Int32 × Mu} (a : Nat) (u1 : Int32) (u2 : Int32) (μ : Mu) (hf : fX2_hasTwinAhead a u1 u2 μ = some r) : Mt G l yX2_hasTwinAhead cX2_hasTwinAhead 5 (some .boolean) 0 0 0 [.ref (gB G + a), .int u1, .int u2] μ (some (.int r.1)) r.2 := by
  rw [fX2_hasTwinAhead] at hf
  have hf := grd_v hf
  refine Mt.of (by decide) (Nat.le_of_ble_eq_true rfl) (fun p e s m args below meth c => ?_)
  show LX2_hasTwinAhead G p l e s m args below meth c r 0 [(0, .ref (gB G + a)), (1, .int u1), (2, .int u2)] [] μ
  refine x_iconst 0 dX2_hasTwinAhead_0 (by decide) ?_
  refine x_istore_n [1, 2, 3, 0] dX2_hasTwinAhead_1 (by decide) (lv' := [(0, .ref (gB G + a)), (1, .int u1), (2, .int u2), (3, .int 0)]) rfl ?_
  exact tX2_hasTwinAhead_2  FU a u1 u2 0 μ hf
abbrev LX2_choose (G : Gm) (p : Program) (l : Launch) (e : Env) (s : State) (m : MethodId) (args : Array Value) (below : List Frame) (meth : Method) (c : Code) (r : Mu) (pc : Nat) (lv : List (Nat × Value)) (st : List Value) (μ : Mu) : Prop := Lt G p l e { frames := 0, cells := 0, slots := 0, locals := 40 * 0 } s m args below meth c cX2_choose 3 RX2 none "choose" (MQ below (Qm G none r 0) args s 0 0 (fA G)) 0 0 pc lv st μ
def fX2_choose_7 : Nat → Nat → Int32 → Mu → Option (Mu)
  | 0, _, _, _ => none
  | n + 1, v0, v2, μ => (if 7 ≤ v2 then
    some μ
    else
    (gR 2 v0 6 μ).bind fun x4 =>
    (gR 2 v0 5 μ).bind fun x6 =>
    (aI 8 x6 v2 μ).bind fun x8 =>
    (bI 8 x4 v2 x8 μ).bind fun m10 =>
    (fX2_choose_7 n) v0 (v2 + 1) m10)
set_option maxRecDepth 20000 in
theorem tX2_choose_7 {G : Gm} {p : Program} {l : Launch} {e : Env} {s : State} {m : MethodId} {args : Array Value} {below : List Frame} {meth : Method} {c : Code} {r : Mu} : ∀ (n : Nat) (v0 : Nat) (v2 : Int32) (μ : Mu), fX2_choose_7 n v0 v2 μ = some r → LX2_choose G p l e s m args below meth c r 7 [(0, .ref (gB G + v0)), (2, .int v2)] [] μ := by
  intro n
  induction n with
  | zero =>
    intro v0 v2 μ hf
    simp [fX2_choose_7] at hf
  | succ n ih =>
    intro v0 v2 μ hf
    rw [fX2_choose_7] at hf
    refine x_iload_n 1 dX2_choose_7 rfl ?_
    refine x_bipush 7 dX2_choose_8 (by decide) ?_
    refine x_icmp_ge 31 dX2_choose_10 rfl (fun c3 => ?_) (fun c3 => ?_)
    · rw [if_pos c3] at hf
      exact y_vret rfl rfl rfl hf dX2_choose_31
    · rw [if_neg c3] at hf
      refine x_aload_n 0 dX2_choose_13 rfl ?_
      obtain ⟨x4, h5, hf⟩ := bnd hf
      refine x_getR wF_X2_28 (by decide) (by decide) rfl h5 dX2_choose_14 ?_
      refine x_iload_n 1 dX2_choose_17 rfl ?_
      refine x_aload_n 0 dX2_choose_18 rfl ?_
      obtain ⟨x6, h7, hf⟩ := bnd hf
      refine x_getR wF_X2_25 (by decide) (by decide) rfl h7 dX2_choose_19 ?_
      refine x_iload_n 1 dX2_choose_22 rfl ?_
      obtain ⟨x8, h9, hf⟩ := bnd hf
      refine x_iald h9 dX2_choose_23 ?_
      obtain ⟨m10, h11, hf⟩ := bnd hf
      refine x_iast h11 dX2_choose_24 ?_
      refine x_iinc 1 (v2 + 1) [1, 0] dX2_choose_25 rfl rfl (by decide) (lv' := [(0, .ref (gB G + v0)), (2, .int (v2 + 1))]) rfl ?_
      refine x_goto 7 dX2_choose_28 rfl ?_
      exact ih v0 (v2 + 1) m10 hf
def fX2_choose (a : Nat) (u1 : Int32) (μ : Mu) : Option (Mu) := grd (isO 2 a μ) ((pI 2 a 0 u1 μ).bind fun m1 =>
    fX2_choose_7  FU a 0 m1)
set_option maxRecDepth 20000 in
theorem tX2_choose {G : Gm} {l : Launch} {r : Mu} (a : Nat) (u1 : Int32) (μ : Mu) (hf : fX2_choose a u1 μ = some r) : Mt G l yX2_choose cX2_choose 3 none 0 0 0 [.ref (gB G + a), .int u1] μ none r := by
  rw [fX2_choose] at hf
  have hf := grd_v hf
  refine Mt.of (by decide) (Nat.le_of_ble_eq_true rfl) (fun p e s m args below meth c => ?_)
  show LX2_choose G p l e s m args below meth c r 0 [(0, .ref (gB G + a)), (1, .int u1)] [] μ
  refine x_aload_n 0 dX2_choose_0 rfl ?_
  refine x_iload_n 1 dX2_choose_1 rfl ?_
  obtain ⟨m1, h2, hf⟩ := bnd hf
  refine x_putI wF_X2_47 (by decide) (by decide) rfl rfl h2 dX2_choose_2 ?_
  refine x_iconst 0 dX2_choose_5 (by decide) ?_
  refine x_istore_n [1, 2, 0] dX2_choose_6 (by decide) (lv' := [(0, .ref (gB G + a)), (1, .int u1), (2, .int 0)]) rfl ?_
  refine x_sub [0, 2] (lv' := [(0, .ref (gB G + a)), (2, .int 0)]) rfl ?_
  exact tX2_choose_7  FU a 0 m1 hf
