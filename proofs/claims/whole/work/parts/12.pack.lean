abbrev LX2_lookAhead (G : Gm) (p : Program) (l : Launch) (e : Env) (s : State) (m : MethodId) (args : Array Value) (below : List Frame) (meth : Method) (c : Code) (r : Mu) (pc : Nat) (lv : List (Nat × Value)) (st : List Value) (μ : Mu) : Prop := Lt G p l e { frames := 2, cells := 0, slots := 0, locals := 40 * (2) } s m args below meth c cX2_lookAhead 6 RX2 none "lookAhead" (MQ below (Qm G none r 0) args s 0 0 (fA G)) 0 0 pc lv st μ
def fX2_lookAhead_122 (k24 : Nat → Nat → Int32 → Int32 → Int32 → Mu → Option (Mu)) (v0 : Nat) (v1 : Nat) (v2 : Int32) (v3 : Int32) (v4 : Int32) (s0 : Nat) (s1 : Int32) (s2 : Int32) (s3 : Int32) (μ : Mu) : Option (Mu) := (bI 8 s0 s1 (s2 + s3) μ).bind fun m22 =>
    (gR 2 v0 4 m22).bind fun x24 =>
    (bI 8 x24 v4 (v2 + v3) m22).bind fun m26 =>
    k24 v0 v1 v2 v3 (v4 + (-1)) m26
set_option maxRecDepth 20000 in
theorem tX2_lookAhead_122 {G : Gm} {p : Program} {l : Launch} {e : Env} {s : State} {m : MethodId} {args : Array Value} {below : List Frame} {meth : Method} {c : Code} {r : Mu} {k24 : Nat → Nat → Int32 → Int32 → Int32 → Mu → Option (Mu)} (hk24 : ∀ (v0 : Nat) (v1 : Nat) (v2 : Int32) (v3 : Int32) (v4 : Int32) (μ : Mu), k24 v0 v1 v2 v3 v4 μ = some r → LX2_lookAhead G p l e s m args below meth c r 24 [(0, .ref (gB G + v0)), (1, .ref (gB G + v1)), (2, .int v2), (3, .int v3), (4, .int v4)] [] μ) (v0 : Nat) (v1 : Nat) (v2 : Int32) (v3 : Int32) (v4 : Int32) (s0 : Nat) (s1 : Int32) (s2 : Int32) (s3 : Int32) (μ : Mu) (hf : fX2_lookAhead_122 k24 v0 v1 v2 v3 v4 s0 s1 s2 s3 μ = some r) : LX2_lookAhead G p l e s m args below meth c r 122 [(0, .ref (gB G + v0)), (1, .ref (gB G + v1)), (2, .int v2), (3, .int v3), (4, .int v4)] [.int s3, .int s2, .int s1, .ref (gB G + s0)] μ := by
  rw [fX2_lookAhead_122] at hf
  refine x_iadd dX2_lookAhead_122 ?_
  obtain ⟨m22, h23, hf⟩ := bnd hf
  refine x_iast h23 dX2_lookAhead_123 ?_
  refine x_aload_n 0 dX2_lookAhead_124 rfl ?_
  obtain ⟨x24, h25, hf⟩ := bnd hf
  refine x_getR wF_X2_22 (by decide) (by decide) rfl h25 dX2_lookAhead_125 ?_
  refine x_iload 4 dX2_lookAhead_128 rfl ?_
  refine x_iload_n 2 dX2_lookAhead_130 rfl ?_
  refine x_iload_n 3 dX2_lookAhead_131 rfl ?_
  refine x_iadd dX2_lookAhead_132 ?_
  obtain ⟨m26, h27, hf⟩ := bnd hf
  refine x_iast h27 dX2_lookAhead_133 ?_
  refine x_iinc 4 (v4 + (-1)) [1, 2, 3, 4, 0] dX2_lookAhead_134 rfl rfl (by decide) (lv' := [(0, .ref (gB G + v0)), (1, .ref (gB G + v1)), (2, .int v2), (3, .int v3), (4, .int (v4 + (-1)))]) rfl ?_
  refine x_goto 24 dX2_lookAhead_137 rfl ?_
  exact hk24 v0 v1 v2 v3 (v4 + (-1)) m26 hf
def fX2_lookAhead_92 (k24 : Nat → Nat → Int32 → Int32 → Int32 → Mu → Option (Mu)) (v0 : Nat) (v1 : Nat) (v2 : Int32) (v3 : Int32) (v4 : Int32) (v5 : Int32) (μ : Mu) : Option (Mu) := (gR 2 v0 3 μ).bind fun x15 =>
    (gR 2 v0 3 μ).bind fun x17 =>
    (aI 8 x17 (v4 + 1) μ).bind fun x19 =>
    (if v5 = 0 then
    fX2_lookAhead_122 k24 v0 v1 v2 v3 v4 x15 v4 x19 0 μ
    else
    (fX0_worthOf v1 v4 μ).bind fun q28 =>
    fX2_lookAhead_122 k24 v0 v1 v2 v3 v4 x15 v4 x19 q28.1 q28.2)
set_option maxRecDepth 20000 in
theorem tX2_lookAhead_92 {G : Gm} {p : Program} {l : Launch} {e : Env} {s : State} {m : MethodId} {args : Array Value} {below : List Frame} {meth : Method} {c : Code} {r : Mu} {k24 : Nat → Nat → Int32 → Int32 → Int32 → Mu → Option (Mu)} (hk24 : ∀ (v0 : Nat) (v1 : Nat) (v2 : Int32) (v3 : Int32) (v4 : Int32) (μ : Mu), k24 v0 v1 v2 v3 v4 μ = some r → LX2_lookAhead G p l e s m args below meth c r 24 [(0, .ref (gB G + v0)), (1, .ref (gB G + v1)), (2, .int v2), (3, .int v3), (4, .int v4)] [] μ) (v0 : Nat) (v1 : Nat) (v2 : Int32) (v3 : Int32) (v4 : Int32) (v5 : Int32) (μ : Mu) (hf : fX2_lookAhead_92 k24 v0 v1 v2 v3 v4 v5 μ = some r) : LX2_lookAhead G p l e s m args below meth c r 92 [(0, .ref (gB G + v0)), (1, .ref (gB G + v1)), (2, .int v2), (3, .int v3), (4, .int v4), (5, .int v5)] [] μ := by
  rw [fX2_lookAhead_92] at hf
  refine x_aload_n 0 dX2_lookAhead_92 rfl ?_
  obtain ⟨x15, h16, hf⟩ := bnd hf
  refine x_getR wF_X2_19 (by decide) (by decide) rfl h16 dX2_lookAhead_93 ?_
  refine x_iload 4 dX2_lookAhead_96 rfl ?_
  refine x_aload_n 0 dX2_lookAhead_98 rfl ?_
  obtain ⟨x17, h18, hf⟩ := bnd hf
  refine x_getR wF_X2_19 (by decide) (by decide) rfl h18 dX2_lookAhead_99 ?_
  refine x_iload 4 dX2_lookAhead_102 rfl ?_
  refine x_iconst 1 dX2_lookAhead_104 (by decide) ?_
  refine x_iadd dX2_lookAhead_105 ?_
  obtain ⟨x19, h20, hf⟩ := bnd hf
  refine x_iald h20 dX2_lookAhead_106 ?_
  refine x_iload 5 dX2_lookAhead_107 rfl ?_
  refine x_if_eq 121 dX2_lookAhead_109 rfl (fun c21 => ?_) (fun c21 => ?_)
  · rw [if_pos c21] at hf
    refine x_iconst 0 dX2_lookAhead_121 (by decide) ?_
    refine x_sub [0, 1, 2, 3, 4] (lv' := [(0, .ref (gB G + v0)), (1, .ref (gB G + v1)), (2, .int v2), (3, .int v3), (4, .int v4)]) rfl ?_
    exact tX2_lookAhead_122 hk24 v0 v1 v2 v3 v4 x15 v4 x19 0 μ hf
  · rw [if_neg c21] at hf
    refine x_aload_n 1 dX2_lookAhead_112 rfl ?_
    refine x_iload 4 dX2_lookAhead_113 rfl ?_
    obtain ⟨q28, h29, hf⟩ := bnd hf
    refine x_callVi (rest := [.int x19, .int v4, .ref (gB G + x15)]) [.int v4] (tX0_worthOf v1 v4 μ h29) wY_X0_worthOf wI_X0_worthOf wS_X0_worthOf wL_X2_66 (grd_p h29) (by decide) rfl rfl (Nat.le_of_ble_eq_true rfl) ⟨Nat.le_of_ble_eq_true rfl, Nat.le_of_ble_eq_true rfl⟩ ⟨Nat.le_refl _, Nat.le_refl _⟩ dX2_lookAhead_115 ?_
    refine x_goto 122 dX2_lookAhead_118 rfl ?_
    refine x_sub [0, 1, 2, 3, 4] (lv' := [(0, .ref (gB G + v0)), (1, .ref (gB G + v1)), (2, .int v2), (3, .int v3), (4, .int v4)]) rfl ?_
    exact tX2_lookAhead_122 hk24 v0 v1 v2 v3 v4 x15 v4 x19 q28.1 q28.2 hf
def fX2_lookAhead_74 (k24 : Nat → Nat → Int32 → Int32 → Int32 → Mu → Option (Mu)) (v0 : Nat) (v1 : Nat) (v2 : Int32) (v3 : Int32) (v4 : Int32) (v5 : Int32) (μ : Mu) : Option (Mu) := (if v5 = 0 then
    fX2_lookAhead_92 k24 v0 v1 v2 v3 v4 v5 μ
    else
    (fX0_kindOf v1 v4 μ).bind fun q30 =>
    (fX0_needAbove (-1) q30.1 q30.2).bind fun q32 =>
    fX2_lookAhead_92 k24 v0 v1 (v2 + q32.1) v3 v4 v5 q32.2)
set_option maxRecDepth 20000 in
theorem tX2_lookAhead_74 {G : Gm} {p : Program} {l : Launch} {e : Env} {s : State} {m : MethodId} {args : Array Value} {below : List Frame} {meth : Method} {c : Code} {r : Mu} {k24 : Nat → Nat → Int32 → Int32 → Int32 → Mu → Option (Mu)} (hk24 : ∀ (v0 : Nat) (v1 : Nat) (v2 : Int32) (v3 : Int32) (v4 : Int32) (μ : Mu), k24 v0 v1 v2 v3 v4 μ = some r → LX2_lookAhead G p l e s m args below meth c r 24 [(0, .ref (gB G + v0)), (1, .ref (gB G + v1)), (2, .int v2), (3, .int v3), (4, .int v4)] [] μ) (v0 : Nat) (v1 : Nat) (v2 : Int32) (v3 : Int32) (v4 : Int32) (v5 : Int32) (μ : Mu) (hf : fX2_lookAhead_74 k24 v0 v1 v2 v3 v4 v5 μ = some r) : LX2_lookAhead G p l e s m args below meth c r 74 [(0, .ref (gB G + v0)), (1, .ref (gB G + v1)), (2, .int v2), (3, .int v3), (4, .int v4), (5, .int v5)] [] μ := by
  rw [fX2_lookAhead_74] at hf
  refine x_iload 5 dX2_lookAhead_74 rfl ?_
  refine x_if_eq 92 dX2_lookAhead_76 rfl (fun c14 => ?_) (fun c14 => ?_)
  · rw [if_pos c14] at hf
    exact tX2_lookAhead_92 hk24 v0 v1 v2 v3 v4 v5 μ hf
  · rw [if_neg c14] at hf
    refine x_iload_n 2 dX2_lookAhead_79 rfl ?_
    refine x_iconst (-1) dX2_lookAhead_80 (by decide) ?_
    refine x_aload_n 1 dX2_lookAhead_81 rfl ?_
    refine x_iload 4 dX2_lookAhead_82 rfl ?_
    obtain ⟨q30, h31, hf⟩ := bnd hf
    refine x_callVi (rest := [.int (-1), .int v2]) [.int v4] (tX0_kindOf v1 v4 μ h31) wY_X0_kindOf wI_X0_kindOf wS_X0_kindOf wL_X2_37 (grd_p h31) (by decide) rfl rfl (Nat.le_of_ble_eq_true rfl) ⟨Nat.le_of_ble_eq_true rfl, Nat.le_of_ble_eq_true rfl⟩ ⟨Nat.le_refl _, Nat.le_refl _⟩ dX2_lookAhead_84 ?_
    obtain ⟨q32, h33, hf⟩ := bnd hf
    refine x_callSi (rest := [.int v2]) [.int (-1), .int q30.1] (tX0_needAbove (-1) q30.1 q30.2 h33) wY_X0_needAbove wT_X0_needAbove wL_X2_62 rfl (Nat.le_of_ble_eq_true rfl) ⟨Nat.le_of_ble_eq_true rfl, Nat.le_of_ble_eq_true rfl⟩ ⟨Nat.le_refl _, Nat.le_refl _⟩ dX2_lookAhead_87 ?_
    refine x_iadd dX2_lookAhead_90 ?_
    refine x_istore_n [1, 2, 0, 3, 4, 5] dX2_lookAhead_91 (by decide) (lv' := [(0, .ref (gB G + v0)), (1, .ref (gB G + v1)), (2, .int (v2 + q32.1)), (3, .int v3), (4, .int v4), (5, .int v5)]) rfl ?_
    exact tX2_lookAhead_92 hk24 v0 v1 (v2 + q32.1) v3 v4 v5 q32.2 hf
def fX2_lookAhead_52 (k24 : Nat → Nat → Int32 → Int32 → Int32 → Mu → Option (Mu)) (v0 : Nat) (v1 : Nat) (v2 : Int32) (v3 : Int32) (v4 : Int32) (s0 : Int32) (μ : Mu) : Option (Mu) := (if s0 = 0 then
    fX2_lookAhead_74 k24 v0 v1 v2 v3 v4 s0 μ
    else
    (fX0_kindOf v1 v4 μ).bind fun q34 =>
    (if q34.1 = 3 then
    fX2_lookAhead_92 k24 v0 v1 v2 1 v4 s0 q34.2
    else
    fX2_lookAhead_74 k24 v0 v1 v2 v3 v4 s0 q34.2))
set_option maxRecDepth 20000 in
theorem tX2_lookAhead_52 {G : Gm} {p : Program} {l : Launch} {e : Env} {s : State} {m : MethodId} {args : Array Value} {below : List Frame} {meth : Method} {c : Code} {r : Mu} {k24 : Nat → Nat → Int32 → Int32 → Int32 → Mu → Option (Mu)} (hk24 : ∀ (v0 : Nat) (v1 : Nat) (v2 : Int32) (v3 : Int32) (v4 : Int32) (μ : Mu), k24 v0 v1 v2 v3 v4 μ = some r → LX2_lookAhead G p l e s m args below meth c r 24 [(0, .ref (gB G + v0)), (1, .ref (gB G + v1)), (2, .int v2), (3, .int v3), (4, .int v4)] [] μ) (v0 : Nat) (v1 : Nat) (v2 : Int32) (v3 : Int32) (v4 : Int32) (s0 : Int32) (μ : Mu) (hf : fX2_lookAhead_52 k24 v0 v1 v2 v3 v4 s0 μ = some r) : LX2_lookAhead G p l e s m args below meth c r 52 [(0, .ref (gB G + v0)), (1, .ref (gB G + v1)), (2, .int v2), (3, .int v3), (4, .int v4)] [.int s0] μ := by
  rw [fX2_lookAhead_52] at hf
  refine x_istore [1, 2, 3, 4, 5, 0] dX2_lookAhead_52 (by decide) (lv' := [(0, .ref (gB G + v0)), (1, .ref (gB G + v1)), (2, .int v2), (3, .int v3), (4, .int v4), (5, .int s0)]) rfl ?_
  refine x_iload 5 dX2_lookAhead_54 rfl ?_
  refine x_if_eq 74 dX2_lookAhead_56 rfl (fun c13 => ?_) (fun c13 => ?_)
  · rw [if_pos c13] at hf
    exact tX2_lookAhead_74 hk24 v0 v1 v2 v3 v4 s0 μ hf
  · rw [if_neg c13] at hf
    refine x_aload_n 1 dX2_lookAhead_59 rfl ?_
    refine x_iload 4 dX2_lookAhead_60 rfl ?_
    obtain ⟨q34, h35, hf⟩ := bnd hf
    refine x_callVi (rest := []) [.int v4] (tX0_kindOf v1 v4 μ h35) wY_X0_kindOf wI_X0_kindOf wS_X0_kindOf wL_X2_37 (grd_p h35) (by decide) rfl rfl (Nat.le_of_ble_eq_true rfl) ⟨Nat.le_of_ble_eq_true rfl, Nat.le_of_ble_eq_true rfl⟩ ⟨Nat.le_refl _, Nat.le_refl _⟩ dX2_lookAhead_62 ?_
    refine x_iconst 3 dX2_lookAhead_65 (by decide) ?_
    refine x_icmp_ne 74 dX2_lookAhead_66 rfl (fun c36 => ?_) (fun c36 => ?_)
    · rw [if_neg c36] at hf
      exact tX2_lookAhead_74 hk24 v0 v1 v2 v3 v4 s0 q34.2 hf
    · rw [if_pos c36] at hf
      refine x_iconst 1 dX2_lookAhead_69 (by decide) ?_
      refine x_istore_n [1, 2, 3, 0, 4, 5] dX2_lookAhead_70 (by decide) (lv' := [(0, .ref (gB G + v0)), (1, .ref (gB G + v1)), (2, .int v2), (3, .int 1), (4, .int v4), (5, .int s0)]) rfl ?_
      refine x_goto 92 dX2_lookAhead_71 rfl ?_
      exact tX2_lookAhead_92 hk24 v0 v1 v2 1 v4 s0 q34.2 hf
def fX2_lookAhead_24 : Nat → Nat → Nat → Int32 → Int32 → Int32 → Mu → Option (Mu)
  | 0, _, _, _, _, _, _ => none
  | n + 1, v0, v1, v2, v3, v4, μ => (if v4 < 0 then
    some μ
    else
    (fX0_hasHour v1 v4 μ).bind fun q10 =>
    (if q10.1 = 0 then
    fX2_lookAhead_52 (fX2_lookAhead_24 n) v0 v1 v2 v3 v4 0 q10.2
    else
    (fX0_lies v1 v4 q10.2).bind fun q37 =>
    (if q37.1 = 0 then
    fX2_lookAhead_52 (fX2_lookAhead_24 n) v0 v1 v2 v3 v4 1 q37.2
    else
    fX2_lookAhead_52 (fX2_lookAhead_24 n) v0 v1 v2 v3 v4 0 q37.2)))
set_option maxRecDepth 20000 in
theorem tX2_lookAhead_24 {G : Gm} {p : Program} {l : Launch} {e : Env} {s : State} {m : MethodId} {args : Array Value} {below : List Frame} {meth : Method} {c : Code} {r : Mu} : ∀ (n : Nat) (v0 : Nat) (v1 : Nat) (v2 : Int32) (v3 : Int32) (v4 : Int32) (μ : Mu), fX2_lookAhead_24 n v0 v1 v2 v3 v4 μ = some r → LX2_lookAhead G p l e s m args below meth c r 24 [(0, .ref (gB G + v0)), (1, .ref (gB G + v1)), (2, .int v2), (3, .int v3), (4, .int v4)] [] μ := by
  intro n
  induction n with
  | zero =>
    intro v0 v1 v2 v3 v4 μ hf
    simp [fX2_lookAhead_24] at hf
  | succ n ih =>
    intro v0 v1 v2 v3 v4 μ hf
    rw [fX2_lookAhead_24] at hf
    refine x_iload 4 dX2_lookAhead_24 rfl ?_
    refine x_if_lt 140 dX2_lookAhead_26 rfl (fun c9 => ?_) (fun c9 => ?_)
    · rw [if_pos c9] at hf
      exact y_vret rfl rfl rfl hf dX2_lookAhead_140
    · rw [if_neg c9] at hf
      refine x_aload_n 1 dX2_lookAhead_29 rfl ?_
      refine x_iload 4 dX2_lookAhead_30 rfl ?_
      obtain ⟨q10, h11, hf⟩ := bnd hf
      refine x_callVi (rest := []) [.int v4] (tX0_hasHour v1 v4 μ h11) wY_X0_hasHour wI_X0_hasHour wS_X0_hasHour wL_X2_55 (grd_p h11) (by decide) rfl rfl (Nat.le_of_ble_eq_true rfl) ⟨Nat.le_of_ble_eq_true rfl, Nat.le_of_ble_eq_true rfl⟩ ⟨Nat.le_refl _, Nat.le_refl _⟩ dX2_lookAhead_32 ?_
      refine x_if_eq 51 dX2_lookAhead_35 rfl (fun c12 => ?_) (fun c12 => ?_)
      · rw [if_pos c12] at hf
        refine x_iconst 0 dX2_lookAhead_51 (by decide) ?_
        exact tX2_lookAhead_52 ih v0 v1 v2 v3 v4 0 q10.2 hf
      · rw [if_neg c12] at hf
        refine x_aload_n 1 dX2_lookAhead_38 rfl ?_
        refine x_iload 4 dX2_lookAhead_39 rfl ?_
        obtain ⟨q37, h38, hf⟩ := bnd hf
        refine x_callVi (rest := []) [.int v4] (tX0_lies v1 v4 q10.2 h38) wY_X0_lies wI_X0_lies wS_X0_lies wL_X2_59 (grd_p h38) (by decide) rfl rfl (Nat.le_of_ble_eq_true rfl) ⟨Nat.le_of_ble_eq_true rfl, Nat.le_of_ble_eq_true rfl⟩ ⟨Nat.le_refl _, Nat.le_refl _⟩ dX2_lookAhead_41 ?_
        refine x_if_ne 51 dX2_lookAhead_44 rfl (fun c39 => ?_) (fun c39 => ?_)
        · rw [if_neg c39] at hf
          refine x_iconst 0 dX2_lookAhead_51 (by decide) ?_
          exact tX2_lookAhead_52 ih v0 v1 v2 v3 v4 0 q37.2 hf
        · rw [if_pos c39] at hf
          refine x_iconst 1 dX2_lookAhead_47 (by decide) ?_
          refine x_goto 52 dX2_lookAhead_48 rfl ?_
          exact tX2_lookAhead_52 ih v0 v1 v2 v3 v4 1 q37.2 hf
def fX2_lookAhead (a : Nat) (u1 : Nat) (μ : Mu) : Option (Mu) := grd (isO 2 a μ) ((gR 2 a 3 μ).bind fun x1 =>
    (bI 8 x1 7 0 μ).bind fun m3 =>
    (gR 2 a 4 m3).bind fun x5 =>
    (bI 8 x5 7 0 m3).bind fun m7 =>
    fX2_lookAhead_24  FU a u1 0 0 6 m7)
set_option maxRecDepth 20000 in
theorem tX2_lookAhead {G : Gm} {l : Launch} {r : Mu} (a : Nat) (u1 : Nat) (μ : Mu) (hf : fX2_lookAhead a u1 μ = some r) : Mt G l yX2_lookAhead cX2_lookAhead 6 none (2) 0 0 [.ref (gB G + a), .ref (gB G + u1)] μ none r := by
  rw [fX2_lookAhead] at hf
  have hf := grd_v hf
  refine Mt.of (by decide) (Nat.le_of_ble_eq_true rfl) (fun p e s m args below meth c => ?_)
  show LX2_lookAhead G p l e s m args below meth c r 0 [(0, .ref (gB G + a)), (1, .ref (gB G + u1))] [] μ
  refine x_iconst 0 dX2_lookAhead_0 (by decide) ?_
  refine x_istore_n [1, 2, 0] dX2_lookAhead_1 (by decide) (lv' := [(0, .ref (gB G + a)), (1, .ref (gB G + u1)), (2, .int 0)]) rfl ?_
  refine x_iconst 0 dX2_lookAhead_2 (by decide) ?_
  refine x_istore_n [1, 2, 3, 0] dX2_lookAhead_3 (by decide) (lv' := [(0, .ref (gB G + a)), (1, .ref (gB G + u1)), (2, .int 0), (3, .int 0)]) rfl ?_
  refine x_aload_n 0 dX2_lookAhead_4 rfl ?_
  obtain ⟨x1, h2, hf⟩ := bnd hf
  refine x_getR wF_X2_19 (by decide) (by decide) rfl h2 dX2_lookAhead_5 ?_
  refine x_bipush 7 dX2_lookAhead_8 (by decide) ?_
  refine x_iconst 0 dX2_lookAhead_10 (by decide) ?_
  obtain ⟨m3, h4, hf⟩ := bnd hf
  refine x_iast h4 dX2_lookAhead_11 ?_
  refine x_aload_n 0 dX2_lookAhead_12 rfl ?_
  obtain ⟨x5, h6, hf⟩ := bnd hf
  refine x_getR wF_X2_22 (by decide) (by decide) rfl h6 dX2_lookAhead_13 ?_
  refine x_bipush 7 dX2_lookAhead_16 (by decide) ?_
  refine x_iconst 0 dX2_lookAhead_18 (by decide) ?_
  obtain ⟨m7, h8, hf⟩ := bnd hf
  refine x_iast h8 dX2_lookAhead_19 ?_
  refine x_bipush 6 dX2_lookAhead_20 (by decide) ?_
  refine x_istore [1, 2, 3, 4, 0] dX2_lookAhead_22 (by decide) (lv' := [(0, .ref (gB G + a)), (1, .ref (gB G + u1)), (2, .int 0), (3, .int 0), (4, .int 6)]) rfl ?_
  exact tX2_lookAhead_24  FU a u1 0 0 6 m7 hf
abbrev LX2_placeOf (G : Gm) (p : Program) (l : Launch) (e : Env) (s : State) (m : MethodId) (args : Array Value) (below : List Frame) (meth : Method) (c : Code) (r : Int32 × Mu) (pc : Nat) (lv : List (Nat × Value)) (st : List Value) (μ : Mu) : Prop := Lt G p l e { frames := 0, cells := 0, slots := 0, locals := 40 * (0) } s m args below meth c cX2_placeOf 2 RX2 (some .int) "placeOf" (MQ below (Qm G (some (.int r.1)) r.2 0) args s 0 0 (fA G)) 0 0 pc lv st μ
def fX2_placeOf (a : Nat) (u1 : Int32) (μ : Mu) : Option (Int32 × Mu) := grd (isO 2 a μ) ((if u1 < 0 then
    some ((-4), μ)
    else
    (if 7 ≤ u1 then
    some ((-4), μ)
    else
    (gR 2 a 6 μ).bind fun x3 =>
    (aI 8 x3 u1 μ).bind fun x5 =>
    some (x5, μ))))
set_option maxRecDepth 20000 in
theorem tX2_placeOf {G : Gm} {l : Launch} {r : Int32 × Mu} (a : Nat) (u1 : Int32) (μ : Mu) (hf : fX2_placeOf a u1 μ = some r) : Mt G l yX2_placeOf cX2_placeOf 2 (some .int) (0) 0 0 [.ref (gB G + a), .int u1] μ (some (.int r.1)) r.2 := by
  rw [fX2_placeOf] at hf
  have hf := grd_v hf
  refine Mt.of (by decide) (Nat.le_of_ble_eq_true rfl) (fun p e s m args below meth c => ?_)
  show LX2_placeOf G p l e s m args below meth c r 0 [(0, .ref (gB G + a)), (1, .int u1)] [] μ
  refine x_iload_n 1 dX2_placeOf_0 rfl ?_
  refine x_if_lt 19 dX2_placeOf_1 rfl (fun c1 => ?_) (fun c1 => ?_)
  · rw [if_pos c1] at hf
    refine x_bipush (-4) dX2_placeOf_19 (by decide) ?_
    exact y_iret rfl rfl rfl hf dX2_placeOf_21
  · rw [if_neg c1] at hf
    refine x_iload_n 1 dX2_placeOf_4 rfl ?_
    refine x_bipush 7 dX2_placeOf_5 (by decide) ?_
    refine x_icmp_ge 19 dX2_placeOf_7 rfl (fun c2 => ?_) (fun c2 => ?_)
    · rw [if_pos c2] at hf
      refine x_bipush (-4) dX2_placeOf_19 (by decide) ?_
      exact y_iret rfl rfl rfl hf dX2_placeOf_21
    · rw [if_neg c2] at hf
      refine x_aload_n 0 dX2_placeOf_10 rfl ?_
      obtain ⟨x3, h4, hf⟩ := bnd hf
      refine x_getR wF_X2_28 (by decide) (by decide) rfl h4 dX2_placeOf_11 ?_
      refine x_iload_n 1 dX2_placeOf_14 rfl ?_
      obtain ⟨x5, h6, hf⟩ := bnd hf
      refine x_iald h6 dX2_placeOf_15 ?_
      refine x_goto 21 dX2_placeOf_16 rfl ?_
      exact y_iret rfl rfl rfl hf dX2_placeOf_21
abbrev LX2_hasTwinAhead (G : Gm) (p : Program) (l : Launch) (e : Env) (s : State) (m : MethodId) (args : Array Value) (below : List Frame) (meth : Method) (c : Code) (r : Int32 × Mu) (pc : Nat) (lv : List (Nat × Value)) (st : List Value) (μ : Mu) : Prop := Lt G p l e { frames := 0, cells := 0, slots := 0, locals := 40 * (0) } s m args below meth c cX2_hasTwinAhead 5 RX2 (some .boolean) "hasTwinAhead" (MQ below (Qm G (some (.int r.1)) r.2 0) args s 0 0 (fA G)) 0 0 pc lv st μ
def fX2_hasTwinAhead_37 (k2 : Nat → Int32 → Int32 → Int32 → Mu → Option (Int32 × Mu)) (v0 : Nat) (v1 : Int32) (v2 : Int32) (v3 : Int32) (s0 : Int32) (μ : Mu) : Option (Int32 × Mu) := (if s0 = 0 then
    (gR 2 v0 1 μ).bind fun x9 =>
    (aI 8 x9 v3 μ).bind fun x11 =>
    (gR 2 v0 1 μ).bind fun x13 =>
    (aI 8 x13 v1 μ).bind fun x15 =>
    (if x11 = x15 then
    (gR 2 v0 2 μ).bind fun x18 =>
    (aI 10 x18 v3 μ).bind fun x20 =>
    (gR 2 v0 2 μ).bind fun x22 =>
    (aI 10 x22 v1 μ).bind fun x24 =>
    (if x20 = x24 then
    some (1, μ)
    else
    k2 v0 v1 v2 (v3 + 1) μ)
    else
    k2 v0 v1 v2 (v3 + 1) μ)
    else
    some (1, μ))
set_option maxRecDepth 20000 in
theorem tX2_hasTwinAhead_37 {G : Gm} {p : Program} {l : Launch} {e : Env} {s : State} {m : MethodId} {args : Array Value} {below : List Frame} {meth : Method} {c : Code} {r : Int32 × Mu} {k2 : Nat → Int32 → Int32 → Int32 → Mu → Option (Int32 × Mu)} (hk2 : ∀ (v0 : Nat) (v1 : Int32) (v2 : Int32) (v3 : Int32) (μ : Mu), k2 v0 v1 v2 v3 μ = some r → LX2_hasTwinAhead G p l e s m args below meth c r 2 [(0, .ref (gB G + v0)), (1, .int v1), (2, .int v2), (3, .int v3)] [] μ) (v0 : Nat) (v1 : Int32) (v2 : Int32) (v3 : Int32) (s0 : Int32) (μ : Mu) (hf : fX2_hasTwinAhead_37 k2 v0 v1 v2 v3 s0 μ = some r) : LX2_hasTwinAhead G p l e s m args below meth c r 37 [(0, .ref (gB G + v0)), (1, .int v1), (2, .int v2), (3, .int v3)] [.int s0] μ := by
  rw [fX2_hasTwinAhead_37] at hf
  refine x_istore [1, 2, 3, 4, 0] dX2_hasTwinAhead_37 (by decide) (lv' := [(0, .ref (gB G + v0)), (1, .int v1), (2, .int v2), (3, .int v3), (4, .int s0)]) rfl ?_
  refine x_iload 4 dX2_hasTwinAhead_39 rfl ?_
  refine x_if_ne 74 dX2_hasTwinAhead_41 rfl (fun c8 => ?_) (fun c8 => ?_)
  · rw [if_neg c8] at hf
    refine x_iconst 1 dX2_hasTwinAhead_74 (by decide) ?_
    exact y_zret rfl (by decide) rfl rfl hf dX2_hasTwinAhead_75
  · rw [if_pos c8] at hf
    refine x_aload_n 0 dX2_hasTwinAhead_44 rfl ?_
    obtain ⟨x9, h10, hf⟩ := bnd hf
    refine x_getR wF_X2_9 (by decide) (by decide) rfl h10 dX2_hasTwinAhead_45 ?_
    refine x_iload_n 3 dX2_hasTwinAhead_48 rfl ?_
    obtain ⟨x11, h12, hf⟩ := bnd hf
    refine x_iald h12 dX2_hasTwinAhead_49 ?_
    refine x_aload_n 0 dX2_hasTwinAhead_50 rfl ?_
    obtain ⟨x13, h14, hf⟩ := bnd hf
    refine x_getR wF_X2_9 (by decide) (by decide) rfl h14 dX2_hasTwinAhead_51 ?_
    refine x_iload_n 1 dX2_hasTwinAhead_54 rfl ?_
    obtain ⟨x15, h16, hf⟩ := bnd hf
    refine x_iald h16 dX2_hasTwinAhead_55 ?_
    refine x_icmp_ne 76 dX2_hasTwinAhead_56 rfl (fun c17 => ?_) (fun c17 => ?_)
    · rw [if_neg c17] at hf
      refine x_iinc 3 (v3 + 1) [1, 2, 3, 0, 4] dX2_hasTwinAhead_76 rfl rfl (by decide) (lv' := [(0, .ref (gB G + v0)), (1, .int v1), (2, .int v2), (3, .int (v3 + 1)), (4, .int s0)]) rfl ?_
      refine x_goto 2 dX2_hasTwinAhead_79 rfl ?_
      refine x_sub [0, 1, 2, 3] (lv' := [(0, .ref (gB G + v0)), (1, .int v1), (2, .int v2), (3, .int (v3 + 1))]) rfl ?_
      exact hk2 v0 v1 v2 (v3 + 1) μ hf
    · rw [if_pos c17] at hf
      refine x_aload_n 0 dX2_hasTwinAhead_59 rfl ?_
      obtain ⟨x18, h19, hf⟩ := bnd hf
      refine x_getR wF_X2_15 (by decide) (by decide) rfl h19 dX2_hasTwinAhead_60 ?_
      refine x_iload_n 3 dX2_hasTwinAhead_63 rfl ?_
      obtain ⟨x20, h21, hf⟩ := bnd hf
      refine x_zald h21 dX2_hasTwinAhead_64 ?_
      refine x_aload_n 0 dX2_hasTwinAhead_65 rfl ?_
      obtain ⟨x22, h23, hf⟩ := bnd hf
      refine x_getR wF_X2_15 (by decide) (by decide) rfl h23 dX2_hasTwinAhead_66 ?_
      refine x_iload_n 1 dX2_hasTwinAhead_69 rfl ?_
      obtain ⟨x24, h25, hf⟩ := bnd hf
      refine x_zald h25 dX2_hasTwinAhead_70 ?_
      refine x_icmp_ne 76 dX2_hasTwinAhead_71 rfl (fun c26 => ?_) (fun c26 => ?_)
      · rw [if_neg c26] at hf
        refine x_iinc 3 (v3 + 1) [1, 2, 3, 0, 4] dX2_hasTwinAhead_76 rfl rfl (by decide) (lv' := [(0, .ref (gB G + v0)), (1, .int v1), (2, .int v2), (3, .int (v3 + 1)), (4, .int s0)]) rfl ?_
        refine x_goto 2 dX2_hasTwinAhead_79 rfl ?_
        refine x_sub [0, 1, 2, 3] (lv' := [(0, .ref (gB G + v0)), (1, .int v1), (2, .int v2), (3, .int (v3 + 1))]) rfl ?_
        exact hk2 v0 v1 v2 (v3 + 1) μ hf
      · rw [if_pos c26] at hf
        refine x_iconst 1 dX2_hasTwinAhead_74 (by decide) ?_
        exact y_zret rfl (by decide) rfl rfl hf dX2_hasTwinAhead_75
def fX2_hasTwinAhead_2 : Nat → Nat → Int32 → Int32 → Int32 → Mu → Option (Int32 × Mu)
  | 0, _, _, _, _, _ => none
  | n + 1, v0, v1, v2, v3, μ => (if v1 ≤ v3 then
    some (0, μ)
    else
    (if 5 ≤ v3 then
    some (0, μ)
    else
    (gR 2 v0 1 μ).bind fun x3 =>
    (aI 8 x3 v3 μ).bind fun x5 =>
    (if x5 < v2 then
    fX2_hasTwinAhead_37 (fX2_hasTwinAhead_2 n) v0 v1 v2 v3 0 μ
    else
    (gR 2 v0 1 μ).bind fun x27 =>
    (aI 8 x27 v1 μ).bind fun x29 =>
    (if x29 < v2 then
    fX2_hasTwinAhead_37 (fX2_hasTwinAhead_2 n) v0 v1 v2 v3 0 μ
    else
    fX2_hasTwinAhead_37 (fX2_hasTwinAhead_2 n) v0 v1 v2 v3 1 μ))))
set_option maxRecDepth 20000 in
theorem tX2_hasTwinAhead_2 {G : Gm} {p : Program} {l : Launch} {e : Env} {s : State} {m : MethodId} {args : Array Value} {below : List Frame} {meth : Method} {c : Code} {r : Int32 × Mu} : ∀ (n : Nat) (v0 : Nat) (v1 : Int32) (v2 : Int32) (v3 : Int32) (μ : Mu), fX2_hasTwinAhead_2 n v0 v1 v2 v3 μ = some r → LX2_hasTwinAhead G p l e s m args below meth c r 2 [(0, .ref (gB G + v0)), (1, .int v1), (2, .int v2), (3, .int v3)] [] μ := by
  intro n
  induction n with
  | zero =>
    intro v0 v1 v2 v3 μ hf
    simp [fX2_hasTwinAhead_2] at hf
  | succ n ih =>
    intro v0 v1 v2 v3 μ hf
    rw [fX2_hasTwinAhead_2] at hf
    refine x_iload_n 3 dX2_hasTwinAhead_2 rfl ?_
    refine x_iload_n 1 dX2_hasTwinAhead_3 rfl ?_
    refine x_icmp_ge 82 dX2_hasTwinAhead_4 rfl (fun c1 => ?_) (fun c1 => ?_)
    · rw [if_pos c1] at hf
      refine x_iconst 0 dX2_hasTwinAhead_82 (by decide) ?_
      exact y_zret rfl (by decide) rfl rfl hf dX2_hasTwinAhead_83
    · rw [if_neg c1] at hf
      refine x_iload_n 3 dX2_hasTwinAhead_7 rfl ?_
      refine x_iconst 5 dX2_hasTwinAhead_8 (by decide) ?_
      refine x_icmp_ge 82 dX2_hasTwinAhead_9 rfl (fun c2 => ?_) (fun c2 => ?_)
      · rw [if_pos c2] at hf
        refine x_iconst 0 dX2_hasTwinAhead_82 (by decide) ?_
        exact y_zret rfl (by decide) rfl rfl hf dX2_hasTwinAhead_83
      · rw [if_neg c2] at hf
        refine x_aload_n 0 dX2_hasTwinAhead_12 rfl ?_
        obtain ⟨x3, h4, hf⟩ := bnd hf
        refine x_getR wF_X2_9 (by decide) (by decide) rfl h4 dX2_hasTwinAhead_13 ?_
        refine x_iload_n 3 dX2_hasTwinAhead_16 rfl ?_
        obtain ⟨x5, h6, hf⟩ := bnd hf
        refine x_iald h6 dX2_hasTwinAhead_17 ?_
        refine x_iload_n 2 dX2_hasTwinAhead_18 rfl ?_
        refine x_icmp_lt 36 dX2_hasTwinAhead_19 rfl (fun c7 => ?_) (fun c7 => ?_)
        · rw [if_pos c7] at hf
          refine x_iconst 0 dX2_hasTwinAhead_36 (by decide) ?_
          exact tX2_hasTwinAhead_37 ih v0 v1 v2 v3 0 μ hf
        · rw [if_neg c7] at hf
          refine x_aload_n 0 dX2_hasTwinAhead_22 rfl ?_
          obtain ⟨x27, h28, hf⟩ := bnd hf
          refine x_getR wF_X2_9 (by decide) (by decide) rfl h28 dX2_hasTwinAhead_23 ?_
          refine x_iload_n 1 dX2_hasTwinAhead_26 rfl ?_
          obtain ⟨x29, h30, hf⟩ := bnd hf
          refine x_iald h30 dX2_hasTwinAhead_27 ?_
          refine x_iload_n 2 dX2_hasTwinAhead_28 rfl ?_
          refine x_icmp_lt 36 dX2_hasTwinAhead_29 rfl (fun c31 => ?_) (fun c31 => ?_)
          · rw [if_pos c31] at hf
            refine x_iconst 0 dX2_hasTwinAhead_36 (by decide) ?_
            exact tX2_hasTwinAhead_37 ih v0 v1 v2 v3 0 μ hf
          · rw [if_neg c31] at hf
            refine x_iconst 1 dX2_hasTwinAhead_32 (by decide) ?_
            refine x_goto 37 dX2_hasTwinAhead_33 rfl ?_
            exact tX2_hasTwinAhead_37 ih v0 v1 v2 v3 1 μ hf
def fX2_hasTwinAhead (a : Nat) (u1 : Int32) (u2 : Int32) (μ : Mu) : Option (Int32 × Mu) := grd (isO 2 a μ) (fX2_hasTwinAhead_2  FU a u1 u2 0 μ)
set_option maxRecDepth 20000 in
theorem tX2_hasTwinAhead {G : Gm} {l : Launch} {r : Int32 × Mu} (a : Nat) (u1 : Int32) (u2 : Int32) (μ : Mu) (hf : fX2_hasTwinAhead a u1 u2 μ = some r) : Mt G l yX2_hasTwinAhead cX2_hasTwinAhead 5 (some .boolean) (0) 0 0 [.ref (gB G + a), .int u1, .int u2] μ (some (.int r.1)) r.2 := by
  rw [fX2_hasTwinAhead] at hf
  have hf := grd_v hf
  refine Mt.of (by decide) (Nat.le_of_ble_eq_true rfl) (fun p e s m args below meth c => ?_)
  show LX2_hasTwinAhead G p l e s m args below meth c r 0 [(0, .ref (gB G + a)), (1, .int u1), (2, .int u2)] [] μ
  refine x_iconst 0 dX2_hasTwinAhead_0 (by decide) ?_
  refine x_istore_n [1, 2, 3, 0] dX2_hasTwinAhead_1 (by decide) (lv' := [(0, .ref (gB G + a)), (1, .int u1), (2, .int u2), (3, .int 0)]) rfl ?_
  exact tX2_hasTwinAhead_2  FU a u1 u2 0 μ hf
abbrev LX2_choose (G : Gm) (p : Program) (l : Launch) (e : Env) (s : State) (m : MethodId) (args : Array Value) (below : List Frame) (meth : Method) (c : Code) (r : Mu) (pc : Nat) (lv : List (Nat × Value)) (st : List Value) (μ : Mu) : Prop := Lt G p l e { frames := 0, cells := 0, slots := 0, locals := 40 * (0) } s m args below meth c cX2_choose 3 RX2 none "choose" (MQ below (Qm G none r 0) args s 0 0 (fA G)) 0 0 pc lv st μ
def fX2_choose_7 : Nat → Nat → Int32 → Mu → Option (Mu)
  | 0, _, _, _ => none
  | n + 1, v0, v2, μ => (if 7 ≤ v2 then
    some μ
    else
    (gR 2 v0 6 μ).bind fun x4 =>
    (gR 2 v0 5 μ).bind fun x6 =>
    (aI 8 x6 v2 μ).bind fun x8 =>
    (bI 8 x4 v2 x8 μ).bind fun m10 =>
    (fX2_choose_7 n) v0 (v2 + 1) m10)
set_option maxRecDepth 20000 in
theorem tX2_choose_7 {G : Gm} {p : Program} {l : Launch} {e : Env} {s : State} {m : MethodId} {args : Array Value} {below : List Frame} {meth : Method} {c : Code} {r : Mu} : ∀ (n : Nat) (v0 : Nat) (v2 : Int32) (μ : Mu), fX2_choose_7 n v0 v2 μ = some r → LX2_choose G p l e s m args below meth c r 7 [(0, .ref (gB G + v0)), (2, .int v2)] [] μ := by
  intro n
  induction n with
  | zero =>
    intro v0 v2 μ hf
    simp [fX2_choose_7] at hf
  | succ n ih =>
    intro v0 v2 μ hf
    rw [fX2_choose_7] at hf
    refine x_iload_n 1 dX2_choose_7 rfl ?_
    refine x_bipush 7 dX2_choose_8 (by decide) ?_
    refine x_icmp_ge 31 dX2_choose_10 rfl (fun c3 => ?_) (fun c3 => ?_)
    · rw [if_pos c3] at hf
      exact y_vret rfl rfl rfl hf dX2_choose_31
    · rw [if_neg c3] at hf
      refine x_aload_n 0 dX2_choose_13 rfl ?_
      obtain ⟨x4, h5, hf⟩ := bnd hf
      refine x_getR wF_X2_28 (by decide) (by decide) rfl h5 dX2_choose_14 ?_
      refine x_iload_n 1 dX2_choose_17 rfl ?_
      refine x_aload_n 0 dX2_choose_18 rfl ?_
      obtain ⟨x6, h7, hf⟩ := bnd hf
      refine x_getR wF_X2_25 (by decide) (by decide) rfl h7 dX2_choose_19 ?_
      refine x_iload_n 1 dX2_choose_22 rfl ?_
      obtain ⟨x8, h9, hf⟩ := bnd hf
      refine x_iald h9 dX2_choose_23 ?_
      obtain ⟨m10, h11, hf⟩ := bnd hf
      refine x_iast h11 dX2_choose_24 ?_
      refine x_iinc 1 (v2 + 1) [1, 0] dX2_choose_25 rfl rfl (by decide) (lv' := [(0, .ref (gB G + v0)), (2, .int (v2 + 1))]) rfl ?_
      refine x_goto 7 dX2_choose_28 rfl ?_
      exact ih v0 (v2 + 1) m10 hf
def fX2_choose (a : Nat) (u1 : Int32) (μ : Mu) : Option (Mu) := grd (isO 2 a μ) ((pI 2 a 0 u1 μ).bind fun m1 =>
    fX2_choose_7  FU a 0 m1)
set_option maxRecDepth 20000 in
theorem tX2_choose {G : Gm} {l : Launch} {r : Mu} (a : Nat) (u1 : Int32) (μ : Mu) (hf : fX2_choose a u1 μ = some r) : Mt G l yX2_choose cX2_choose 3 none (0) 0 0 [.ref (gB G + a), .int u1] μ none r := by
  rw [fX2_choose] at hf
  have hf := grd_v hf
  refine Mt.of (by decide) (Nat.le_of_ble_eq_true rfl) (fun p e s m args below meth c => ?_)
  show LX2_choose G p l e s m args below meth c r 0 [(0, .ref (gB G + a)), (1, .int u1)] [] μ
  refine x_aload_n 0 dX2_choose_0 rfl ?_
  refine x_iload_n 1 dX2_choose_1 rfl ?_
  obtain ⟨m1, h2, hf⟩ := bnd hf
  refine x_putI wF_X2_47 (by decide) (by decide) rfl rfl h2 dX2_choose_2 ?_
  refine x_iconst 0 dX2_choose_5 (by decide) ?_
  refine x_istore_n [1, 2, 0] dX2_choose_6 (by decide) (lv' := [(0, .ref (gB G + a)), (1, .int u1), (2, .int 0)]) rfl ?_
  refine x_sub [0, 2] (lv' := [(0, .ref (gB G + a)), (2, .int 0)]) rfl ?_
  exact tX2_choose_7  FU a 0 m1 hf
abbrev LX2_tryIn (d : Nat) (G : Gm) (p : Program) (l : Launch) (e : Env) (s : State) (m : MethodId) (args : Array Value) (below : List Frame) (meth : Method) (c : Code) (r : Mu) (pc : Nat) (lv : List (Nat × Value)) (st : List Value) (μ : Mu) : Prop := Lt G p l e { frames := 10 + 2 * d + 1, cells := 0, slots := 0, locals := 40 * (10 + 2 * d + 1) } s m args below meth c cX2_tryIn 9 RX2 none "tryIn" (MQ below (Qm G none r 0) args s 0 0 (fA G)) 0 0 pc lv st μ
def fX2_tryIn_119 (rec : Nat → Nat → Int32 → Int32 → Mu → Option Mu) (v0 : Nat) (v1 : Nat) (v2 : Int32) (v3 : Int32) (v4 : Int32) (v6 : Int32) (v7 : Int32) (s0 : Nat) (s1 : Int32) (s2 : Int32) (μ : Mu) : Option (Mu) := (bI 10 s0 s1 s2 μ).bind fun m34 =>
    (gR 2 v0 5 m34).bind fun x36 =>
    (bI 8 x36 v2 v3 m34).bind fun m38 =>
    (fX0_worthOf v1 v2 m38).bind fun q40 =>
    (rec v0 v1 (v2 + 1) (v4 + q40.1) q40.2).bind fun q42 =>
    (gR 2 v0 1 q42).bind fun x44 =>
    (bI 8 x44 v3 v6 q42).bind fun m46 =>
    (gR 2 v0 2 m46).bind fun x48 =>
    (bI 10 x48 v3 v7 m46).bind fun m50 =>
    some m50
set_option maxRecDepth 20000 in
theorem tX2_tryIn_119 {G : Gm} {p : Program} {l : Launch} {e : Env} {s : State} {m : MethodId} {args : Array Value} {below : List Frame} {meth : Method} {c : Code} {r : Mu} {d : Nat} {rec : Nat → Nat → Int32 → Int32 → Mu → Option Mu} (hrec : ∀ (u1 u2 : Nat) (u3 u4 : Int32) (μ r : Mu), rec u1 u2 u3 u4 μ = some r → Mt G l yX2_tryFrom cX2_tryFrom 5 none (10 + 2 * d) 0 0 [.ref (gB G + u1), .ref (gB G + u2), .int u3, .int u4] μ none r) (v0 : Nat) (v1 : Nat) (v2 : Int32) (v3 : Int32) (v4 : Int32) (v6 : Int32) (v7 : Int32) (s0 : Nat) (s1 : Int32) (s2 : Int32) (μ : Mu) (hf : fX2_tryIn_119 rec v0 v1 v2 v3 v4 v6 v7 s0 s1 s2 μ = some r) : LX2_tryIn d G p l e s m args below meth c r 119 [(0, .ref (gB G + v0)), (1, .ref (gB G + v1)), (2, .int v2), (3, .int v3), (4, .int v4), (6, .int v6), (7, .int v7)] [.int s2, .int s1, .ref (gB G + s0)] μ := by
  rw [fX2_tryIn_119] at hf
  obtain ⟨m34, h35, hf⟩ := bnd hf
  refine x_zast h35 dX2_tryIn_119 ?_
  refine x_aload_n 0 dX2_tryIn_120 rfl ?_
  obtain ⟨x36, h37, hf⟩ := bnd hf
  refine x_getR wF_X2_25 (by decide) (by decide) rfl h37 dX2_tryIn_121 ?_
  refine x_iload_n 2 dX2_tryIn_124 rfl ?_
  refine x_iload_n 3 dX2_tryIn_125 rfl ?_
  obtain ⟨m38, h39, hf⟩ := bnd hf
  refine x_iast h39 dX2_tryIn_126 ?_
  refine x_aload_n 0 dX2_tryIn_127 rfl ?_
  refine x_aload_n 1 dX2_tryIn_128 rfl ?_
  refine x_iload_n 2 dX2_tryIn_129 rfl ?_
  refine x_iconst 1 dX2_tryIn_130 (by decide) ?_
  refine x_iadd dX2_tryIn_131 ?_
  refine x_iload 4 dX2_tryIn_132 rfl ?_
  refine x_aload_n 1 dX2_tryIn_134 rfl ?_
  refine x_iload_n 2 dX2_tryIn_135 rfl ?_
  obtain ⟨q40, h41, hf⟩ := bnd hf
  refine x_callVi (rest := [.int v4, .int (v2 + 1), .ref (gB G + v1), .ref (gB G + v0)]) [.int v2] (tX0_worthOf v1 v2 m38 h41) wY_X0_worthOf wI_X0_worthOf wS_X0_worthOf wL_X2_66 (grd_p h41) (by decide) rfl rfl (Nat.le_of_ble_eq_true rfl) ⟨by dsimp only; omega, by dsimp only; omega⟩ ⟨Nat.le_refl _, Nat.le_refl _⟩ dX2_tryIn_136 ?_
  refine x_iadd dX2_tryIn_139 ?_
  obtain ⟨q42, h43, hf⟩ := bnd hf
  refine x_callSv (rest := []) [.ref (gB G + v0), .ref (gB G + v1), .int (v2 + 1), .int (v4 + q40.1)] ((fun u1 u2 u3 u4 μ h => hrec u1 u2 u3 u4 μ _ h) v0 v1 (v2 + 1) (v4 + q40.1) q40.2 h43) wY_X2_tryFrom wT_X2_tryFrom wL_X2_51 rfl (Nat.le_of_ble_eq_true rfl) ⟨by dsimp only; omega, by dsimp only; omega⟩ ⟨Nat.le_refl _, Nat.le_refl _⟩ dX2_tryIn_140 ?_
  refine x_aload_n 0 dX2_tryIn_143 rfl ?_
  obtain ⟨x44, h45, hf⟩ := bnd hf
  refine x_getR wF_X2_9 (by decide) (by decide) rfl h45 dX2_tryIn_144 ?_
  refine x_iload_n 3 dX2_tryIn_147 rfl ?_
  refine x_iload 5 dX2_tryIn_148 rfl ?_
  obtain ⟨m46, h47, hf⟩ := bnd hf
  refine x_iast h47 dX2_tryIn_150 ?_
  refine x_aload_n 0 dX2_tryIn_151 rfl ?_
  obtain ⟨x48, h49, hf⟩ := bnd hf
  refine x_getR wF_X2_15 (by decide) (by decide) rfl h49 dX2_tryIn_152 ?_
  refine x_iload_n 3 dX2_tryIn_155 rfl ?_
  refine x_iload 6 dX2_tryIn_156 rfl ?_
  obtain ⟨m50, h51, hf⟩ := bnd hf
  refine x_zast h51 dX2_tryIn_158 ?_
  exact y_vret rfl rfl rfl hf dX2_tryIn_159
def fX2_tryIn_102 (rec : Nat → Nat → Int32 → Int32 → Mu → Option Mu) (v0 : Nat) (v1 : Nat) (v2 : Int32) (v3 : Int32) (v4 : Int32) (v5 : Int32) (v6 : Int32) (v7 : Int32) (s0 : Nat) (s1 : Int32) (s2 : Int32) (μ : Mu) : Option (Mu) := (bI 8 s0 s1 s2 μ).bind fun m29 =>
    (gR 2 v0 2 m29).bind fun x31 =>
    (if v5 = 2 then
    fX2_tryIn_119 rec  v0 v1 v2 v3 v4 v6 v7 x31 v3 1 m29
    else
    fX2_tryIn_119 rec  v0 v1 v2 v3 v4 v6 v7 x31 v3 0 m29)
set_option maxRecDepth 20000 in
theorem tX2_tryIn_102 {G : Gm} {p : Program} {l : Launch} {e : Env} {s : State} {m : MethodId} {args : Array Value} {below : List Frame} {meth : Method} {c : Code} {r : Mu} {d : Nat} {rec : Nat → Nat → Int32 → Int32 → Mu → Option Mu} (hrec : ∀ (u1 u2 : Nat) (u3 u4 : Int32) (μ r : Mu), rec u1 u2 u3 u4 μ = some r → Mt G l yX2_tryFrom cX2_tryFrom 5 none (10 + 2 * d) 0 0 [.ref (gB G + u1), .ref (gB G + u2), .int u3, .int u4] μ none r) (v0 : Nat) (v1 : Nat) (v2 : Int32) (v3 : Int32) (v4 : Int32) (v5 : Int32) (v6 : Int32) (v7 : Int32) (s0 : Nat) (s1 : Int32) (s2 : Int32) (μ : Mu) (hf : fX2_tryIn_102 rec v0 v1 v2 v3 v4 v5 v6 v7 s0 s1 s2 μ = some r) : LX2_tryIn d G p l e s m args below meth c r 102 [(0, .ref (gB G + v0)), (1, .ref (gB G + v1)), (2, .int v2), (3, .int v3), (4, .int v4), (5, .int v5), (6, .int v6), (7, .int v7)] [.int s2, .int s1, .ref (gB G + s0)] μ := by
  rw [fX2_tryIn_102] at hf
  obtain ⟨m29, h30, hf⟩ := bnd hf
  refine x_iast h30 dX2_tryIn_102 ?_
  refine x_aload_n 0 dX2_tryIn_103 rfl ?_
  obtain ⟨x31, h32, hf⟩ := bnd hf
  refine x_getR wF_X2_15 (by decide) (by decide) rfl h32 dX2_tryIn_104 ?_
  refine x_iload_n 3 dX2_tryIn_107 rfl ?_
  refine x_iload 5 dX2_tryIn_108 rfl ?_
  refine x_iconst 2 dX2_tryIn_110 (by decide) ?_
  refine x_icmp_ne 118 dX2_tryIn_111 rfl (fun c33 => ?_) (fun c33 => ?_)
  · rw [if_neg c33] at hf
    refine x_iconst 0 dX2_tryIn_118 (by decide) ?_
    refine x_sub [0, 1, 2, 3, 4, 6, 7] (lv' := [(0, .ref (gB G + v0)), (1, .ref (gB G + v1)), (2, .int v2), (3, .int v3), (4, .int v4), (6, .int v6), (7, .int v7)]) rfl ?_
    exact tX2_tryIn_119 hrec  v0 v1 v2 v3 v4 v6 v7 x31 v3 0 m29 hf
  · rw [if_pos c33] at hf
    refine x_iconst 1 dX2_tryIn_114 (by decide) ?_
    refine x_goto 119 dX2_tryIn_115 rfl ?_
    refine x_sub [0, 1, 2, 3, 4, 6, 7] (lv' := [(0, .ref (gB G + v0)), (1, .ref (gB G + v1)), (2, .int v2), (3, .int v3), (4, .int v4), (6, .int v6), (7, .int v7)]) rfl ?_
    exact tX2_tryIn_119 hrec  v0 v1 v2 v3 v4 v6 v7 x31 v3 1 m29 hf
def fX2_tryIn_53 (rec : Nat → Nat → Int32 → Int32 → Mu → Option Mu) (v0 : Nat) (v1 : Nat) (v2 : Int32) (v3 : Int32) (v4 : Int32) (v5 : Int32) (v6 : Int32) (v7 : Int32) (s0 : Int32) (μ : Mu) : Option (Mu) := (fX0_needAbove s0 v5 μ).bind fun q16 =>
    (if v6 < q16.1 then
    some q16.2
    else
    (gR 2 v0 4 q16.2).bind fun x19 =>
    (aI 8 x19 v2 q16.2).bind fun x21 =>
    (fX2_hasTwinAhead v0 v3 x21 q16.2).bind fun q23 =>
    (if q23.1 = 0 then
    (gR 2 v0 1 q23.2).bind fun x26 =>
    (if v5 = 3 then
    fX2_tryIn_102 rec  v0 v1 v2 v3 v4 v5 v6 v7 x26 v3 (-1) q23.2
    else
    fX2_tryIn_102 rec  v0 v1 v2 v3 v4 v5 v6 v7 x26 v3 (v6 - q16.1) q23.2)
    else
    some q23.2))
set_option maxRecDepth 20000 in
theorem tX2_tryIn_53 {G : Gm} {p : Program} {l : Launch} {e : Env} {s : State} {m : MethodId} {args : Array Value} {below : List Frame} {meth : Method} {c : Code} {r : Mu} {d : Nat} {rec : Nat → Nat → Int32 → Int32 → Mu → Option Mu} (hrec : ∀ (u1 u2 : Nat) (u3 u4 : Int32) (μ r : Mu), rec u1 u2 u3 u4 μ = some r → Mt G l yX2_tryFrom cX2_tryFrom 5 none (10 + 2 * d) 0 0 [.ref (gB G + u1), .ref (gB G + u2), .int u3, .int u4] μ none r) (v0 : Nat) (v1 : Nat) (v2 : Int32) (v3 : Int32) (v4 : Int32) (v5 : Int32) (v6 : Int32) (v7 : Int32) (s0 : Int32) (μ : Mu) (hf : fX2_tryIn_53 rec v0 v1 v2 v3 v4 v5 v6 v7 s0 μ = some r) : LX2_tryIn d G p l e s m args below meth c r 53 [(0, .ref (gB G + v0)), (1, .ref (gB G + v1)), (2, .int v2), (3, .int v3), (4, .int v4), (5, .int v5), (6, .int v6), (7, .int v7)] [.int s0] μ := by
  rw [fX2_tryIn_53] at hf
  refine x_iload 5 dX2_tryIn_53 rfl ?_
  obtain ⟨q16, h17, hf⟩ := bnd hf
  refine x_callSi (rest := []) [.int s0, .int v5] (tX0_needAbove s0 v5 μ h17) wY_X0_needAbove wT_X0_needAbove wL_X2_62 rfl (Nat.le_of_ble_eq_true rfl) ⟨by dsimp only; omega, by dsimp only; omega⟩ ⟨Nat.le_refl _, Nat.le_refl _⟩ dX2_tryIn_55 ?_
  refine x_istore [1, 2, 3, 4, 5, 6, 7, 8, 0] dX2_tryIn_58 (by decide) (lv' := [(0, .ref (gB G + v0)), (1, .ref (gB G + v1)), (2, .int v2), (3, .int v3), (4, .int v4), (5, .int v5), (6, .int v6), (7, .int v7), (8, .int q16.1)]) rfl ?_
  refine x_iload 8 dX2_tryIn_60 rfl ?_
  refine x_iload 6 dX2_tryIn_62 rfl ?_
  refine x_icmp_gt 81 dX2_tryIn_64 rfl (fun c18 => ?_) (fun c18 => ?_)
  · rw [if_pos c18] at hf
    exact y_vret rfl rfl rfl hf dX2_tryIn_81
  · rw [if_neg c18] at hf
    refine x_aload_n 0 dX2_tryIn_67 rfl ?_
    refine x_iload_n 3 dX2_tryIn_68 rfl ?_
    refine x_aload_n 0 dX2_tryIn_69 rfl ?_
    obtain ⟨x19, h20, hf⟩ := bnd hf
    refine x_getR wF_X2_22 (by decide) (by decide) rfl h20 dX2_tryIn_70 ?_
    refine x_iload_n 2 dX2_tryIn_73 rfl ?_
    obtain ⟨x21, h22, hf⟩ := bnd hf
    refine x_iald h22 dX2_tryIn_74 ?_
    obtain ⟨q23, h24, hf⟩ := bnd hf
    refine x_callVi (rest := []) [.int v3, .int x21] (tX2_hasTwinAhead v0 v3 x21 q16.2 h24) wY_X2_hasTwinAhead wI_X2_hasTwinAhead wS_X2_hasTwinAhead wL_X2_86 (grd_p h24) (by decide) rfl rfl (Nat.le_of_ble_eq_true rfl) ⟨by dsimp only; omega, by dsimp only; omega⟩ ⟨Nat.le_refl _, Nat.le_refl _⟩ dX2_tryIn_75 ?_
    refine x_if_eq 82 dX2_tryIn_78 rfl (fun c25 => ?_) (fun c25 => ?_)
    · rw [if_pos c25] at hf
      refine x_aload_n 0 dX2_tryIn_82 rfl ?_
      obtain ⟨x26, h27, hf⟩ := bnd hf
      refine x_getR wF_X2_9 (by decide) (by decide) rfl h27 dX2_tryIn_83 ?_
      refine x_iload_n 3 dX2_tryIn_86 rfl ?_
      refine x_iload 5 dX2_tryIn_87 rfl ?_
      refine x_iconst 3 dX2_tryIn_89 (by decide) ?_
      refine x_icmp_ne 97 dX2_tryIn_90 rfl (fun c28 => ?_) (fun c28 => ?_)
      · rw [if_neg c28] at hf
        refine x_iload 6 dX2_tryIn_97 rfl ?_
        refine x_iload 8 dX2_tryIn_99 rfl ?_
        refine x_isub dX2_tryIn_101 ?_
        refine x_sub [0, 1, 2, 3, 4, 5, 6, 7] (lv' := [(0, .ref (gB G + v0)), (1, .ref (gB G + v1)), (2, .int v2), (3, .int v3), (4, .int v4), (5, .int v5), (6, .int v6), (7, .int v7)]) rfl ?_
        exact tX2_tryIn_102 hrec  v0 v1 v2 v3 v4 v5 v6 v7 x26 v3 (v6 - q16.1) q23.2 hf
      · rw [if_pos c28] at hf
        refine x_iconst (-1) dX2_tryIn_93 (by decide) ?_
        refine x_goto 102 dX2_tryIn_94 rfl ?_
        refine x_sub [0, 1, 2, 3, 4, 5, 6, 7] (lv' := [(0, .ref (gB G + v0)), (1, .ref (gB G + v1)), (2, .int v2), (3, .int v3), (4, .int v4), (5, .int v5), (6, .int v6), (7, .int v7)]) rfl ?_
        exact tX2_tryIn_102 hrec  v0 v1 v2 v3 v4 v5 v6 v7 x26 v3 (-1) q23.2 hf
    · rw [if_neg c25] at hf
      exact y_vret rfl rfl rfl hf dX2_tryIn_81
def fX2_tryIn (rec : Nat → Nat → Int32 → Int32 → Mu → Option Mu) (u1 : Nat) (u2 : Nat) (u3 : Int32) (u4 : Int32) (u5 : Int32) (μ : Mu) : Option (Mu) := (if u4 < 0 then
    some μ
    else
    (if 5 ≤ u4 then
    some μ
    else
    (if u3 < 0 then
    some μ
    else
    (if u3 < 7 then
    (fX0_kindOf u2 u3 μ).bind fun q5 =>
    (gR 2 u1 1 q5.2).bind fun x7 =>
    (aI 8 x7 u4 q5.2).bind fun x9 =>
    (gR 2 u1 2 q5.2).bind fun x11 =>
    (aI 10 x11 u4 q5.2).bind fun x13 =>
    (if x13 = 0 then
    fX2_tryIn_53 rec  u1 u2 u3 u4 u5 q5.1 x9 x13 0 q5.2
    else
    fX2_tryIn_53 rec  u1 u2 u3 u4 u5 q5.1 x9 x13 2 q5.2)
    else
    some μ))))
set_option maxRecDepth 20000 in
theorem tX2_tryIn {G : Gm} {l : Launch} {r : Mu} {d : Nat} {rec : Nat → Nat → Int32 → Int32 → Mu → Option Mu} (hrec : ∀ (u1 u2 : Nat) (u3 u4 : Int32) (μ r : Mu), rec u1 u2 u3 u4 μ = some r → Mt G l yX2_tryFrom cX2_tryFrom 5 none (10 + 2 * d) 0 0 [.ref (gB G + u1), .ref (gB G + u2), .int u3, .int u4] μ none r) (u1 : Nat) (u2 : Nat) (u3 : Int32) (u4 : Int32) (u5 : Int32) (μ : Mu) (hf : fX2_tryIn rec u1 u2 u3 u4 u5 μ = some r) : Mt G l yX2_tryIn cX2_tryIn 9 none (10 + 2 * d + 1) 0 0 [.ref (gB G + u1), .ref (gB G + u2), .int u3, .int u4, .int u5] μ none r := by
  rw [fX2_tryIn] at hf
  refine Mt.of (by decide) (Nat.le_of_ble_eq_true rfl) (fun p e s m args below meth c => ?_)
  show LX2_tryIn d G p l e s m args below meth c r 0 [(0, .ref (gB G + u1)), (1, .ref (gB G + u2)), (2, .int u3), (3, .int u4), (4, .int u5)] [] μ
  refine x_iload_n 3 dX2_tryIn_0 rfl ?_
  refine x_if_lt 19 dX2_tryIn_1 rfl (fun c1 => ?_) (fun c1 => ?_)
  · rw [if_pos c1] at hf
    exact y_vret rfl rfl rfl hf dX2_tryIn_19
  · rw [if_neg c1] at hf
    refine x_iload_n 3 dX2_tryIn_4 rfl ?_
    refine x_iconst 5 dX2_tryIn_5 (by decide) ?_
    refine x_icmp_ge 19 dX2_tryIn_6 rfl (fun c2 => ?_) (fun c2 => ?_)
    · rw [if_pos c2] at hf
      exact y_vret rfl rfl rfl hf dX2_tryIn_19
    · rw [if_neg c2] at hf
      refine x_iload_n 2 dX2_tryIn_9 rfl ?_
      refine x_if_lt 19 dX2_tryIn_10 rfl (fun c3 => ?_) (fun c3 => ?_)
      · rw [if_pos c3] at hf
        exact y_vret rfl rfl rfl hf dX2_tryIn_19
      · rw [if_neg c3] at hf
        refine x_iload_n 2 dX2_tryIn_13 rfl ?_
        refine x_bipush 7 dX2_tryIn_14 (by decide) ?_
        refine x_icmp_lt 20 dX2_tryIn_16 rfl (fun c4 => ?_) (fun c4 => ?_)
        · rw [if_pos c4] at hf
          refine x_aload_n 1 dX2_tryIn_20 rfl ?_
          refine x_iload_n 2 dX2_tryIn_21 rfl ?_
          obtain ⟨q5, h6, hf⟩ := bnd hf
          refine x_callVi (rest := []) [.int u3] (tX0_kindOf u2 u3 μ h6) wY_X0_kindOf wI_X0_kindOf wS_X0_kindOf wL_X2_37 (grd_p h6) (by decide) rfl rfl (Nat.le_of_ble_eq_true rfl) ⟨by dsimp only; omega, by dsimp only; omega⟩ ⟨Nat.le_refl _, Nat.le_refl _⟩ dX2_tryIn_22 ?_
          refine x_istore [1, 2, 3, 4, 5, 0] dX2_tryIn_25 (by decide) (lv' := [(0, .ref (gB G + u1)), (1, .ref (gB G + u2)), (2, .int u3), (3, .int u4), (4, .int u5), (5, .int q5.1)]) rfl ?_
          refine x_aload_n 0 dX2_tryIn_27 rfl ?_
          obtain ⟨x7, h8, hf⟩ := bnd hf
          refine x_getR wF_X2_9 (by decide) (by decide) rfl h8 dX2_tryIn_28 ?_
          refine x_iload_n 3 dX2_tryIn_31 rfl ?_
          obtain ⟨x9, h10, hf⟩ := bnd hf
          refine x_iald h10 dX2_tryIn_32 ?_
          refine x_istore [1, 2, 3, 4, 5, 6, 0] dX2_tryIn_33 (by decide) (lv' := [(0, .ref (gB G + u1)), (1, .ref (gB G + u2)), (2, .int u3), (3, .int u4), (4, .int u5), (5, .int q5.1), (6, .int x9)]) rfl ?_
          refine x_aload_n 0 dX2_tryIn_35 rfl ?_
          obtain ⟨x11, h12, hf⟩ := bnd hf
          refine x_getR wF_X2_15 (by decide) (by decide) rfl h12 dX2_tryIn_36 ?_
          refine x_iload_n 3 dX2_tryIn_39 rfl ?_
          obtain ⟨x13, h14, hf⟩ := bnd hf
          refine x_zald h14 dX2_tryIn_40 ?_
          refine x_istore [1, 2, 3, 4, 5, 6, 7, 0] dX2_tryIn_41 (by decide) (lv' := [(0, .ref (gB G + u1)), (1, .ref (gB G + u2)), (2, .int u3), (3, .int u4), (4, .int u5), (5, .int q5.1), (6, .int x9), (7, .int x13)]) rfl ?_
          refine x_iload 7 dX2_tryIn_43 rfl ?_
          refine x_if_eq 52 dX2_tryIn_45 rfl (fun c15 => ?_) (fun c15 => ?_)
          · rw [if_pos c15] at hf
            refine x_iconst 0 dX2_tryIn_52 (by decide) ?_
            exact tX2_tryIn_53 hrec  u1 u2 u3 u4 u5 q5.1 x9 x13 0 q5.2 hf
          · rw [if_neg c15] at hf
            refine x_iconst 2 dX2_tryIn_48 (by decide) ?_
            refine x_goto 53 dX2_tryIn_49 rfl ?_
            exact tX2_tryIn_53 hrec  u1 u2 u3 u4 u5 q5.1 x9 x13 2 q5.2 hf
        · rw [if_neg c4] at hf
          exact y_vret rfl rfl rfl hf dX2_tryIn_19
abbrev LX2_tryFrom (d : Nat) (G : Gm) (p : Program) (l : Launch) (e : Env) (s : State) (m : MethodId) (args : Array Value) (below : List Frame) (meth : Method) (c : Code) (r : Mu) (pc : Nat) (lv : List (Nat × Value)) (st : List Value) (μ : Mu) : Prop := Lt G p l e { frames := 10 + 2 * (d + 1), cells := 0, slots := 0, locals := 40 * (10 + 2 * (d + 1)) } s m args below meth c cX2_tryFrom 5 RX2 none "tryFrom" (MQ below (Qm G none r 0) args s 0 0 (fA G)) 0 0 pc lv st μ
def fX2_tryFromB_108 (rec : Nat → Nat → Int32 → Int32 → Mu → Option Mu) (v0 : Nat) (v1 : Nat) (v2 : Int32) (v3 : Int32) (μ : Mu) : Option (Mu) := (gR 2 v0 5 μ).bind fun x22 =>
    (bI 8 x22 v2 (-4) μ).bind fun m24 =>
    (rec v0 v1 (v2 + 1) v3 m24).bind fun q26 =>
    some q26
set_option maxRecDepth 20000 in
theorem tX2_tryFromB_108 {G : Gm} {p : Program} {l : Launch} {e : Env} {s : State} {m : MethodId} {args : Array Value} {below : List Frame} {meth : Method} {c : Code} {r : Mu} {d : Nat} {rec : Nat → Nat → Int32 → Int32 → Mu → Option Mu} (hrec : ∀ (u1 u2 : Nat) (u3 u4 : Int32) (μ r : Mu), rec u1 u2 u3 u4 μ = some r → Mt G l yX2_tryFrom cX2_tryFrom 5 none (10 + 2 * d) 0 0 [.ref (gB G + u1), .ref (gB G + u2), .int u3, .int u4] μ none r) (v0 : Nat) (v1 : Nat) (v2 : Int32) (v3 : Int32) (μ : Mu) (hf : fX2_tryFromB_108 rec v0 v1 v2 v3 μ = some r) : LX2_tryFrom d G p l e s m args below meth c r 108 [(0, .ref (gB G + v0)), (1, .ref (gB G + v1)), (2, .int v2), (3, .int v3)] [] μ := by
  rw [fX2_tryFromB_108] at hf
  refine x_aload_n 0 dX2_tryFrom_108 rfl ?_
  obtain ⟨x22, h23, hf⟩ := bnd hf
  refine x_getR wF_X2_25 (by decide) (by decide) rfl h23 dX2_tryFrom_109 ?_
  refine x_iload_n 2 dX2_tryFrom_112 rfl ?_
  refine x_bipush (-4) dX2_tryFrom_113 (by decide) ?_
  obtain ⟨m24, h25, hf⟩ := bnd hf
  refine x_iast h25 dX2_tryFrom_115 ?_
  refine x_aload_n 0 dX2_tryFrom_116 rfl ?_
  refine x_aload_n 1 dX2_tryFrom_117 rfl ?_
  refine x_iload_n 2 dX2_tryFrom_118 rfl ?_
  refine x_iconst 1 dX2_tryFrom_119 (by decide) ?_
  refine x_iadd dX2_tryFrom_120 ?_
  refine x_iload_n 3 dX2_tryFrom_121 rfl ?_
  obtain ⟨q26, h27, hf⟩ := bnd hf
  refine x_callSv (rest := []) [.ref (gB G + v0), .ref (gB G + v1), .int (v2 + 1), .int v3] ((fun u1 u2 u3 u4 μ h => hrec u1 u2 u3 u4 μ _ h) v0 v1 (v2 + 1) v3 m24 h27) wY_X2_tryFrom wT_X2_tryFrom wL_X2_51 rfl (Nat.le_of_ble_eq_true rfl) ⟨by dsimp only; omega, by dsimp only; omega⟩ ⟨Nat.le_refl _, Nat.le_refl _⟩ dX2_tryFrom_122 ?_
  exact y_vret rfl rfl rfl hf dX2_tryFrom_125
def fX2_tryFromB_78 (rec : Nat → Nat → Int32 → Int32 → Mu → Option Mu) : Nat → Nat → Nat → Int32 → Int32 → Int32 → Mu → Option (Mu)
  | 0, _, _, _, _, _, _ => none
  | n + 1, v0, v1, v2, v3, v4, μ => (gI 0 v1 0 μ).bind fun x19 =>
    (if x19 ≤ v4 then
    fX2_tryFromB_108 rec  v0 v1 v2 v3 μ
    else
    (if 5 ≤ v4 then
    fX2_tryFromB_108 rec  v0 v1 v2 v3 μ
    else
    (fX2_tryIn rec v0 v1 v2 v4 v3 μ).bind fun q29 =>
    (fX2_tryFromB_78 rec n) v0 v1 v2 v3 (v4 + 1) q29))
set_option maxRecDepth 20000 in
theorem tX2_tryFromB_78 {G : Gm} {p : Program} {l : Launch} {e : Env} {s : State} {m : MethodId} {args : Array Value} {below : List Frame} {meth : Method} {c : Code} {r : Mu} {d : Nat} {rec : Nat → Nat → Int32 → Int32 → Mu → Option Mu} (hrec : ∀ (u1 u2 : Nat) (u3 u4 : Int32) (μ r : Mu), rec u1 u2 u3 u4 μ = some r → Mt G l yX2_tryFrom cX2_tryFrom 5 none (10 + 2 * d) 0 0 [.ref (gB G + u1), .ref (gB G + u2), .int u3, .int u4] μ none r) : ∀ (n : Nat) (v0 : Nat) (v1 : Nat) (v2 : Int32) (v3 : Int32) (v4 : Int32) (μ : Mu), fX2_tryFromB_78 rec n v0 v1 v2 v3 v4 μ = some r → LX2_tryFrom d G p l e s m args below meth c r 78 [(0, .ref (gB G + v0)), (1, .ref (gB G + v1)), (2, .int v2), (3, .int v3), (4, .int v4)] [] μ := by
  intro n
  induction n with
  | zero =>
    intro v0 v1 v2 v3 v4 μ hf
    simp [fX2_tryFromB_78] at hf
  | succ n ih =>
    intro v0 v1 v2 v3 v4 μ hf
    rw [fX2_tryFromB_78] at hf
    refine x_iload 4 dX2_tryFrom_78 rfl ?_
    refine x_aload_n 1 dX2_tryFrom_80 rfl ?_
    obtain ⟨x19, h20, hf⟩ := bnd hf
    refine x_getI wF_X2_79 (by decide) (by decide) rfl h20 dX2_tryFrom_81 ?_
    refine x_icmp_ge 108 dX2_tryFrom_84 rfl (fun c21 => ?_) (fun c21 => ?_)
    · rw [if_pos c21] at hf
      refine x_sub [0, 1, 2, 3] (lv' := [(0, .ref (gB G + v0)), (1, .ref (gB G + v1)), (2, .int v2), (3, .int v3)]) rfl ?_
      exact tX2_tryFromB_108 hrec  v0 v1 v2 v3 μ hf
    · rw [if_neg c21] at hf
      refine x_iload 4 dX2_tryFrom_87 rfl ?_
      refine x_iconst 5 dX2_tryFrom_89 (by decide) ?_
      refine x_icmp_ge 108 dX2_tryFrom_90 rfl (fun c28 => ?_) (fun c28 => ?_)
      · rw [if_pos c28] at hf
        refine x_sub [0, 1, 2, 3] (lv' := [(0, .ref (gB G + v0)), (1, .ref (gB G + v1)), (2, .int v2), (3, .int v3)]) rfl ?_
        exact tX2_tryFromB_108 hrec  v0 v1 v2 v3 μ hf
      · rw [if_neg c28] at hf
        refine x_aload_n 0 dX2_tryFrom_93 rfl ?_
        refine x_aload_n 1 dX2_tryFrom_94 rfl ?_
        refine x_iload_n 2 dX2_tryFrom_95 rfl ?_
        refine x_iload 4 dX2_tryFrom_96 rfl ?_
        refine x_iload_n 3 dX2_tryFrom_98 rfl ?_
        obtain ⟨q29, h30, hf⟩ := bnd hf
        refine x_callSv (rest := []) [.ref (gB G + v0), .ref (gB G + v1), .int v2, .int v4, .int v3] (tX2_tryIn hrec v0 v1 v2 v4 v3 μ h30) wY_X2_tryIn wT_X2_tryIn wL_X2_82 rfl (Nat.le_of_ble_eq_true rfl) ⟨by dsimp only; omega, by dsimp only; omega⟩ ⟨Nat.le_refl _, Nat.le_refl _⟩ dX2_tryFrom_99 ?_
        refine x_iinc 4 (v4 + 1) [1, 2, 3, 4, 0] dX2_tryFrom_102 rfl rfl (by decide) (lv' := [(0, .ref (gB G + v0)), (1, .ref (gB G + v1)), (2, .int v2), (3, .int v3), (4, .int (v4 + 1))]) rfl ?_
        refine x_goto 78 dX2_tryFrom_105 rfl ?_
        exact ih v0 v1 v2 v3 (v4 + 1) q29 hf
def fX2_tryFromB (rec : Nat → Nat → Int32 → Int32 → Mu → Option Mu) (u1 : Nat) (u2 : Nat) (u3 : Int32) (u4 : Int32) (μ : Mu) : Option (Mu) := (if u3 < 0 then
    some μ
    else
    (if 7 < u3 then
    some μ
    else
    (gR 2 u1 3 μ).bind fun x3 =>
    (aI 8 x3 u3 μ).bind fun x5 =>
    (gI 2 u1 0 μ).bind fun x7 =>
    (if x7 < (u4 + x5) then
    (gI 0 u2 1 μ).bind fun x10 =>
    (if x10 ≤ u3 then
    (fX2_choose u1 u4 μ).bind fun q13 =>
    some q13
    else
    (if u3 = 7 then
    (fX2_choose u1 u4 μ).bind fun q39 =>
    some q39
    else
    (fX0_lies u2 u3 μ).bind fun q16 =>
    (if q16.1 = 0 then
    fX2_tryFromB_78 rec  FU u1 u2 u3 u4 0 q16.2
    else
    (gR 2 u1 5 q16.2).bind fun x31 =>
    (fX0_placeOf u2 u3 q16.2).bind fun q33 =>
    (bI 8 x31 u3 q33.1 q33.2).bind fun m35 =>
    (rec u1 u2 (u3 + 1) u4 m35).bind fun q37 =>
    some q37)))
    else
    some μ)))
set_option maxRecDepth 20000 in
theorem tX2_tryFromB {G : Gm} {l : Launch} {r : Mu} {d : Nat} {rec : Nat → Nat → Int32 → Int32 → Mu → Option Mu} (hrec : ∀ (u1 u2 : Nat) (u3 u4 : Int32) (μ r : Mu), rec u1 u2 u3 u4 μ = some r → Mt G l yX2_tryFrom cX2_tryFrom 5 none (10 + 2 * d) 0 0 [.ref (gB G + u1), .ref (gB G + u2), .int u3, .int u4] μ none r) (u1 : Nat) (u2 : Nat) (u3 : Int32) (u4 : Int32) (μ : Mu) (hf : fX2_tryFromB rec u1 u2 u3 u4 μ = some r) : Mt G l yX2_tryFrom cX2_tryFrom 5 none (10 + 2 * (d + 1)) 0 0 [.ref (gB G + u1), .ref (gB G + u2), .int u3, .int u4] μ none r := by
  rw [fX2_tryFromB] at hf
  refine Mt.of (by decide) (Nat.le_of_ble_eq_true rfl) (fun p e s m args below meth c => ?_)
  show LX2_tryFrom d G p l e s m args below meth c r 0 [(0, .ref (gB G + u1)), (1, .ref (gB G + u2)), (2, .int u3), (3, .int u4)] [] μ
  refine x_iload_n 2 dX2_tryFrom_0 rfl ?_
  refine x_if_lt 25 dX2_tryFrom_1 rfl (fun c1 => ?_) (fun c1 => ?_)
  · rw [if_pos c1] at hf
    exact y_vret rfl rfl rfl hf dX2_tryFrom_25
  · rw [if_neg c1] at hf
    refine x_iload_n 2 dX2_tryFrom_4 rfl ?_
    refine x_bipush 7 dX2_tryFrom_5 (by decide) ?_
    refine x_icmp_gt 25 dX2_tryFrom_7 rfl (fun c2 => ?_) (fun c2 => ?_)
    · rw [if_pos c2] at hf
      exact y_vret rfl rfl rfl hf dX2_tryFrom_25
    · rw [if_neg c2] at hf
      refine x_iload_n 3 dX2_tryFrom_10 rfl ?_
      refine x_aload_n 0 dX2_tryFrom_11 rfl ?_
      obtain ⟨x3, h4, hf⟩ := bnd hf
      refine x_getR wF_X2_19 (by decide) (by decide) rfl h4 dX2_tryFrom_12 ?_
      refine x_iload_n 2 dX2_tryFrom_15 rfl ?_
      obtain ⟨x5, h6, hf⟩ := bnd hf
      refine x_iald h6 dX2_tryFrom_16 ?_
      refine x_iadd dX2_tryFrom_17 ?_
      refine x_aload_n 0 dX2_tryFrom_18 rfl ?_
      obtain ⟨x7, h8, hf⟩ := bnd hf
      refine x_getI wF_X2_47 (by decide) (by decide) rfl h8 dX2_tryFrom_19 ?_
      refine x_icmp_gt 26 dX2_tryFrom_22 rfl (fun c9 => ?_) (fun c9 => ?_)
      · rw [if_pos c9] at hf
        refine x_iload_n 2 dX2_tryFrom_26 rfl ?_
        refine x_aload_n 1 dX2_tryFrom_27 rfl ?_
        obtain ⟨x10, h11, hf⟩ := bnd hf
        refine x_getI wF_X2_69 (by decide) (by decide) rfl h11 dX2_tryFrom_28 ?_
        refine x_icmp_ge 40 dX2_tryFrom_31 rfl (fun c12 => ?_) (fun c12 => ?_)
        · rw [if_pos c12] at hf
          refine x_aload_n 0 dX2_tryFrom_40 rfl ?_
          refine x_iload_n 3 dX2_tryFrom_41 rfl ?_
          obtain ⟨q13, h14, hf⟩ := bnd hf
          refine x_callVv (rest := []) [.int u4] (tX2_choose u1 u4 μ h14) wY_X2_choose wI_X2_choose wS_X2_choose wL_X2_72 (grd_p h14) (by decide) rfl rfl (Nat.le_of_ble_eq_true rfl) ⟨by dsimp only; omega, by dsimp only; omega⟩ ⟨Nat.le_refl _, Nat.le_refl _⟩ dX2_tryFrom_42 ?_
          exact y_vret rfl rfl rfl hf dX2_tryFrom_45
        · rw [if_neg c12] at hf
          refine x_iload_n 2 dX2_tryFrom_34 rfl ?_
          refine x_bipush 7 dX2_tryFrom_35 (by decide) ?_
          refine x_icmp_ne 46 dX2_tryFrom_37 rfl (fun c15 => ?_) (fun c15 => ?_)
          · rw [if_neg c15] at hf
            refine x_aload_n 1 dX2_tryFrom_46 rfl ?_
            refine x_iload_n 2 dX2_tryFrom_47 rfl ?_
            obtain ⟨q16, h17, hf⟩ := bnd hf
            refine x_callVi (rest := []) [.int u3] (tX0_lies u2 u3 μ h17) wY_X0_lies wI_X0_lies wS_X0_lies wL_X2_59 (grd_p h17) (by decide) rfl rfl (Nat.le_of_ble_eq_true rfl) ⟨by dsimp only; omega, by dsimp only; omega⟩ ⟨Nat.le_refl _, Nat.le_refl _⟩ dX2_tryFrom_48 ?_
            refine x_if_eq 75 dX2_tryFrom_51 rfl (fun c18 => ?_) (fun c18 => ?_)
            · rw [if_pos c18] at hf
              refine x_iconst 0 dX2_tryFrom_75 (by decide) ?_
              refine x_istore [1, 2, 3, 4, 0] dX2_tryFrom_76 (by decide) (lv' := [(0, .ref (gB G + u1)), (1, .ref (gB G + u2)), (2, .int u3), (3, .int u4), (4, .int 0)]) rfl ?_
              exact tX2_tryFromB_78 hrec  FU u1 u2 u3 u4 0 q16.2 hf
            · rw [if_neg c18] at hf
              refine x_aload_n 0 dX2_tryFrom_54 rfl ?_
              obtain ⟨x31, h32, hf⟩ := bnd hf
              refine x_getR wF_X2_25 (by decide) (by decide) rfl h32 dX2_tryFrom_55 ?_
              refine x_iload_n 2 dX2_tryFrom_58 rfl ?_
              refine x_aload_n 1 dX2_tryFrom_59 rfl ?_
              refine x_iload_n 2 dX2_tryFrom_60 rfl ?_
              obtain ⟨q33, h34, hf⟩ := bnd hf
              refine x_callVi (rest := [.int u3, .ref (gB G + x31)]) [.int u3] (tX0_placeOf u2 u3 q16.2 h34) wY_X0_placeOf wI_X0_placeOf wS_X0_placeOf wL_X2_76 (grd_p h34) (by decide) rfl rfl (Nat.le_of_ble_eq_true rfl) ⟨by dsimp only; omega, by dsimp only; omega⟩ ⟨Nat.le_refl _, Nat.le_refl _⟩ dX2_tryFrom_61 ?_
              obtain ⟨m35, h36, hf⟩ := bnd hf
              refine x_iast h36 dX2_tryFrom_64 ?_
              refine x_aload_n 0 dX2_tryFrom_65 rfl ?_
              refine x_aload_n 1 dX2_tryFrom_66 rfl ?_
              refine x_iload_n 2 dX2_tryFrom_67 rfl ?_
              refine x_iconst 1 dX2_tryFrom_68 (by decide) ?_
              refine x_iadd dX2_tryFrom_69 ?_
              refine x_iload_n 3 dX2_tryFrom_70 rfl ?_
              obtain ⟨q37, h38, hf⟩ := bnd hf
              refine x_callSv (rest := []) [.ref (gB G + u1), .ref (gB G + u2), .int (u3 + 1), .int u4] ((fun u1 u2 u3 u4 μ h => hrec u1 u2 u3 u4 μ _ h) u1 u2 (u3 + 1) u4 m35 h38) wY_X2_tryFrom wT_X2_tryFrom wL_X2_51 rfl (Nat.le_of_ble_eq_true rfl) ⟨by dsimp only; omega, by dsimp only; omega⟩ ⟨Nat.le_refl _, Nat.le_refl _⟩ dX2_tryFrom_71 ?_
              exact y_vret rfl rfl rfl hf dX2_tryFrom_74
          · rw [if_pos c15] at hf
            refine x_aload_n 0 dX2_tryFrom_40 rfl ?_
            refine x_iload_n 3 dX2_tryFrom_41 rfl ?_
            obtain ⟨q39, h40, hf⟩ := bnd hf
            refine x_callVv (rest := []) [.int u4] (tX2_choose u1 u4 μ h40) wY_X2_choose wI_X2_choose wS_X2_choose wL_X2_72 (grd_p h40) (by decide) rfl rfl (Nat.le_of_ble_eq_true rfl) ⟨by dsimp only; omega, by dsimp only; omega⟩ ⟨Nat.le_refl _, Nat.le_refl _⟩ dX2_tryFrom_42 ?_
            exact y_vret rfl rfl rfl hf dX2_tryFrom_45
      · rw [if_neg c9] at hf
        exact y_vret rfl rfl rfl hf dX2_tryFrom_25
def fX2_tryFrom : Nat → Nat → Nat → Int32 → Int32 → Mu → Option Mu
  | 0, _, _, _, _, _ => none
  | d + 1, u1, u2, u3, u4, μ => fX2_tryFromB (fX2_tryFrom d) u1 u2 u3 u4 μ
theorem tX2_tryFrom {G : Gm} {l : Launch} : ∀ (d : Nat) (u1 u2 : Nat) (u3 u4 : Int32) (μ r : Mu), fX2_tryFrom d u1 u2 u3 u4 μ = some r → Mt G l yX2_tryFrom cX2_tryFrom 5 none (10 + 2 * d) 0 0 [.ref (gB G + u1), .ref (gB G + u2), .int u3, .int u4] μ none r := by
  intro d
  induction d with
  | zero =>
    intro u1 u2 u3 u4 μ r hf
    simp [fX2_tryFrom] at hf
  | succ d ih =>
    intro u1 u2 u3 u4 μ r hf
    rw [fX2_tryFrom] at hf
    exact tX2_tryFromB ih u1 u2 u3 u4 μ hf
theorem tX2_tryFrom9 {G : Gm} {l : Launch} {r : Mu} (u1 u2 : Nat) (u3 u4 : Int32) (μ : Mu) (hf : fX2_tryFrom 9 u1 u2 u3 u4 μ = some r) : Mt G l yX2_tryFrom cX2_tryFrom 5 none 28 0 0 [.ref (gB G + u1), .ref (gB G + u2), .int u3, .int u4] μ none r := tX2_tryFrom 9 u1 u2 u3 u4 μ r hf
abbrev LX2_mostOf (G : Gm) (p : Program) (l : Launch) (e : Env) (s : State) (m : MethodId) (args : Array Value) (below : List Frame) (meth : Method) (c : Code) (r : Int32 × Mu) (pc : Nat) (lv : List (Nat × Value)) (st : List Value) (μ : Mu) : Prop := Lt G p l e { frames := 29, cells := 0, slots := 0, locals := 40 * (29) } s m args below meth c cX2_mostOf 5 RX2 (some .int) "mostOf" (MQ below (Qm G (some (.int r.1)) r.2 0) args s 0 0 (fA G)) 0 0 pc lv st μ
def fX2_mostOf_38 (k2 : Nat → Nat → Int32 → Int32 → Mu → Option (Int32 × Mu)) (v0 : Nat) (v1 : Nat) (v2 : Int32) (v3 : Int32) (v4 : Int32) (s0 : Nat) (s1 : Int32) (s2 : Int32) (μ : Mu) : Option (Int32 × Mu) := (bI 8 s0 s1 s2 μ).bind fun m19 =>
    (gR 2 v0 2 m19).bind fun x21 =>
    (if v4 = 2 then
    (bI 10 x21 v3 1 m19).bind fun m26 =>
    k2 v0 v1 v2 (v3 + 1) m26
    else
    (bI 10 x21 v3 0 m19).bind fun m24 =>
    k2 v0 v1 v2 (v3 + 1) m24)
set_option maxRecDepth 20000 in
theorem tX2_mostOf_38 {G : Gm} {p : Program} {l : Launch} {e : Env} {s : State} {m : MethodId} {args : Array Value} {below : List Frame} {meth : Method} {c : Code} {r : Int32 × Mu} {k2 : Nat → Nat → Int32 → Int32 → Mu → Option (Int32 × Mu)} (hk2 : ∀ (v0 : Nat) (v1 : Nat) (v2 : Int32) (v3 : Int32) (μ : Mu), k2 v0 v1 v2 v3 μ = some r → LX2_mostOf G p l e s m args below meth c r 2 [(0, .ref (gB G + v0)), (1, .ref (gB G + v1)), (2, .int v2), (3, .int v3)] [] μ) (v0 : Nat) (v1 : Nat) (v2 : Int32) (v3 : Int32) (v4 : Int32) (s0 : Nat) (s1 : Int32) (s2 : Int32) (μ : Mu) (hf : fX2_mostOf_38 k2 v0 v1 v2 v3 v4 s0 s1 s2 μ = some r) : LX2_mostOf G p l e s m args below meth c r 38 [(0, .ref (gB G + v0)), (1, .ref (gB G + v1)), (2, .int v2), (3, .int v3), (4, .int v4)] [.int s2, .int s1, .ref (gB G + s0)] μ := by
  rw [fX2_mostOf_38] at hf
  obtain ⟨m19, h20, hf⟩ := bnd hf
  refine x_iast h20 dX2_mostOf_38 ?_
  refine x_aload_n 0 dX2_mostOf_39 rfl ?_
  obtain ⟨x21, h22, hf⟩ := bnd hf
  refine x_getR wF_X2_15 (by decide) (by decide) rfl h22 dX2_mostOf_40 ?_
  refine x_iload_n 3 dX2_mostOf_43 rfl ?_
  refine x_iload 4 dX2_mostOf_44 rfl ?_
  refine x_iconst 2 dX2_mostOf_46 (by decide) ?_
  refine x_icmp_ne 54 dX2_mostOf_47 rfl (fun c23 => ?_) (fun c23 => ?_)
  · rw [if_neg c23] at hf
    refine x_iconst 0 dX2_mostOf_54 (by decide) ?_
    obtain ⟨m24, h25, hf⟩ := bnd hf
    refine x_zast h25 dX2_mostOf_55 ?_
    refine x_iinc 3 (v3 + 1) [1, 2, 3, 0, 4] dX2_mostOf_56 rfl rfl (by decide) (lv' := [(0, .ref (gB G + v0)), (1, .ref (gB G + v1)), (2, .int v2), (3, .int (v3 + 1)), (4, .int v4)]) rfl ?_
    refine x_goto 2 dX2_mostOf_59 rfl ?_
    refine x_sub [0, 1, 2, 3] (lv' := [(0, .ref (gB G + v0)), (1, .ref (gB G + v1)), (2, .int v2), (3, .int (v3 + 1))]) rfl ?_
    exact hk2 v0 v1 v2 (v3 + 1) m24 hf
  · rw [if_pos c23] at hf
    refine x_iconst 1 dX2_mostOf_50 (by decide) ?_
    refine x_goto 55 dX2_mostOf_51 rfl ?_
    obtain ⟨m26, h27, hf⟩ := bnd hf
    refine x_zast h27 dX2_mostOf_55 ?_
    refine x_iinc 3 (v3 + 1) [1, 2, 3, 0, 4] dX2_mostOf_56 rfl rfl (by decide) (lv' := [(0, .ref (gB G + v0)), (1, .ref (gB G + v1)), (2, .int v2), (3, .int (v3 + 1)), (4, .int v4)]) rfl ?_
    refine x_goto 2 dX2_mostOf_59 rfl ?_
    refine x_sub [0, 1, 2, 3] (lv' := [(0, .ref (gB G + v0)), (1, .ref (gB G + v1)), (2, .int v2), (3, .int (v3 + 1))]) rfl ?_
    exact hk2 v0 v1 v2 (v3 + 1) m26 hf
def fX2_mostOf_2 : Nat → Nat → Nat → Int32 → Int32 → Mu → Option (Int32 × Mu)
  | 0, _, _, _, _, _ => none
  | n + 1, v0, v1, v2, v3, μ => (if 5 ≤ v3 then
    (fX2_lookAhead v0 v1 μ).bind fun q2 =>
    (pI 2 v0 0 v2 q2).bind fun m4 =>
    (fX2_tryFrom 9 v0 v1 0 0 m4).bind fun q6 =>
    (gI 2 v0 0 q6).bind fun x8 =>
    some (x8, q6)
    else
    (fX0_topOf v1 v3 μ).bind fun q10 =>
    (fX0_kindOf v1 q10.1 q10.2).bind fun q12 =>
    (gR 2 v0 1 q12.2).bind fun x14 =>
    (if q12.1 = 3 then
    fX2_mostOf_38 (fX2_mostOf_2 n) v0 v1 v2 v3 q12.1 x14 v3 (-1) q12.2
    else
    (fX0_freeIn v1 v3 q12.2).bind fun q17 =>
    fX2_mostOf_38 (fX2_mostOf_2 n) v0 v1 v2 v3 q12.1 x14 v3 q17.1 q17.2))
set_option maxRecDepth 20000 in
theorem tX2_mostOf_2 {G : Gm} {p : Program} {l : Launch} {e : Env} {s : State} {m : MethodId} {args : Array Value} {below : List Frame} {meth : Method} {c : Code} {r : Int32 × Mu} : ∀ (n : Nat) (v0 : Nat) (v1 : Nat) (v2 : Int32) (v3 : Int32) (μ : Mu), fX2_mostOf_2 n v0 v1 v2 v3 μ = some r → LX2_mostOf G p l e s m args below meth c r 2 [(0, .ref (gB G + v0)), (1, .ref (gB G + v1)), (2, .int v2), (3, .int v3)] [] μ := by
  intro n
  induction n with
  | zero =>
    intro v0 v1 v2 v3 μ hf
    simp [fX2_mostOf_2] at hf
  | succ n ih =>
    intro v0 v1 v2 v3 μ hf
    rw [fX2_mostOf_2] at hf
    refine x_iload_n 3 dX2_mostOf_2 rfl ?_
    refine x_iconst 5 dX2_mostOf_3 (by decide) ?_
    refine x_icmp_ge 62 dX2_mostOf_4 rfl (fun c1 => ?_) (fun c1 => ?_)
    · rw [if_pos c1] at hf
      refine x_aload_n 0 dX2_mostOf_62 rfl ?_
      refine x_aload_n 1 dX2_mostOf_63 rfl ?_
      obtain ⟨q2, h3, hf⟩ := bnd hf
      refine x_callVv (rest := []) [.ref (gB G + v1)] (tX2_lookAhead v0 v1 μ h3) wY_X2_lookAhead wI_X2_lookAhead wS_X2_lookAhead wL_X2_43 (grd_p h3) (by decide) rfl rfl (Nat.le_of_ble_eq_true rfl) ⟨by dsimp only; omega, by dsimp only; omega⟩ ⟨Nat.le_refl _, Nat.le_refl _⟩ dX2_mostOf_64 ?_
      refine x_aload_n 0 dX2_mostOf_67 rfl ?_
      refine x_iload_n 2 dX2_mostOf_68 rfl ?_
      obtain ⟨m4, h5, hf⟩ := bnd hf
      refine x_putI wF_X2_47 (by decide) (by decide) rfl rfl h5 dX2_mostOf_69 ?_
      refine x_aload_n 0 dX2_mostOf_72 rfl ?_
      refine x_aload_n 1 dX2_mostOf_73 rfl ?_
      refine x_iconst 0 dX2_mostOf_74 (by decide) ?_
      refine x_iconst 0 dX2_mostOf_75 (by decide) ?_
      obtain ⟨q6, h7, hf⟩ := bnd hf
      refine x_callSv (rest := []) [.ref (gB G + v0), .ref (gB G + v1), .int 0, .int 0] (tX2_tryFrom9 v0 v1 0 0 m4 h7) wY_X2_tryFrom wT_X2_tryFrom wL_X2_51 rfl (Nat.le_of_ble_eq_true rfl) ⟨by dsimp only; omega, by dsimp only; omega⟩ ⟨Nat.le_refl _, Nat.le_refl _⟩ dX2_mostOf_76 ?_
      refine x_aload_n 0 dX2_mostOf_79 rfl ?_
      obtain ⟨x8, h9, hf⟩ := bnd hf
      refine x_getI wF_X2_47 (by decide) (by decide) rfl h9 dX2_mostOf_80 ?_
      exact y_iret rfl rfl rfl hf dX2_mostOf_83
    · rw [if_neg c1] at hf
      refine x_aload_n 1 dX2_mostOf_7 rfl ?_
      refine x_aload_n 1 dX2_mostOf_8 rfl ?_
      refine x_iload_n 3 dX2_mostOf_9 rfl ?_
      obtain ⟨q10, h11, hf⟩ := bnd hf
      refine x_callVi (rest := [.ref (gB G + v1)]) [.int v3] (tX0_topOf v1 v3 μ h11) wY_X0_topOf wI_X0_topOf wS_X0_topOf wL_X2_31 (grd_p h11) (by decide) rfl rfl (Nat.le_of_ble_eq_true rfl) ⟨by dsimp only; omega, by dsimp only; omega⟩ ⟨Nat.le_refl _, Nat.le_refl _⟩ dX2_mostOf_10 ?_
      obtain ⟨q12, h13, hf⟩ := bnd hf
      refine x_callVi (rest := []) [.int q10.1] (tX0_kindOf v1 q10.1 q10.2 h13) wY_X0_kindOf wI_X0_kindOf wS_X0_kindOf wL_X2_37 (grd_p h13) (by decide) rfl rfl (Nat.le_of_ble_eq_true rfl) ⟨by dsimp only; omega, by dsimp only; omega⟩ ⟨Nat.le_refl _, Nat.le_refl _⟩ dX2_mostOf_13 ?_
      refine x_istore [1, 2, 3, 4, 0] dX2_mostOf_16 (by decide) (lv' := [(0, .ref (gB G + v0)), (1, .ref (gB G + v1)), (2, .int v2), (3, .int v3), (4, .int q12.1)]) rfl ?_
      refine x_aload_n 0 dX2_mostOf_18 rfl ?_
      obtain ⟨x14, h15, hf⟩ := bnd hf
      refine x_getR wF_X2_9 (by decide) (by decide) rfl h15 dX2_mostOf_19 ?_
      refine x_iload_n 3 dX2_mostOf_22 rfl ?_
      refine x_iload 4 dX2_mostOf_23 rfl ?_
      refine x_iconst 3 dX2_mostOf_25 (by decide) ?_
      refine x_icmp_ne 33 dX2_mostOf_26 rfl (fun c16 => ?_) (fun c16 => ?_)
      · rw [if_neg c16] at hf
        refine x_aload_n 1 dX2_mostOf_33 rfl ?_
        refine x_iload_n 3 dX2_mostOf_34 rfl ?_
        obtain ⟨q17, h18, hf⟩ := bnd hf
        refine x_callVi (rest := [.int v3, .ref (gB G + x14)]) [.int v3] (tX0_freeIn v1 v3 q12.2 h18) wY_X0_freeIn wI_X0_freeIn wS_X0_freeIn wL_X2_40 (grd_p h18) (by decide) rfl rfl (Nat.le_of_ble_eq_true rfl) ⟨by dsimp only; omega, by dsimp only; omega⟩ ⟨Nat.le_refl _, Nat.le_refl _⟩ dX2_mostOf_35 ?_
        exact tX2_mostOf_38 ih v0 v1 v2 v3 q12.1 x14 v3 q17.1 q17.2 hf
      · rw [if_pos c16] at hf
        refine x_iconst (-1) dX2_mostOf_29 (by decide) ?_
        refine x_goto 38 dX2_mostOf_30 rfl ?_
        exact tX2_mostOf_38 ih v0 v1 v2 v3 q12.1 x14 v3 (-1) q12.2 hf
def fX2_mostOf (a : Nat) (u1 : Nat) (u2 : Int32) (μ : Mu) : Option (Int32 × Mu) := grd (isO 2 a μ) (fX2_mostOf_2  FU a u1 u2 0 μ)
set_option maxRecDepth 20000 in
theorem tX2_mostOf {G : Gm} {l : Launch} {r : Int32 × Mu} (a : Nat) (u1 : Nat) (u2 : Int32) (μ : Mu) (hf : fX2_mostOf a u1 u2 μ = some r) : Mt G l yX2_mostOf cX2_mostOf 5 (some .int) (29) 0 0 [.ref (gB G + a), .ref (gB G + u1), .int u2] μ (some (.int r.1)) r.2 := by
  rw [fX2_mostOf] at hf
  have hf := grd_v hf
  refine Mt.of (by decide) (Nat.le_of_ble_eq_true rfl) (fun p e s m args below meth c => ?_)
  show LX2_mostOf G p l e s m args below meth c r 0 [(0, .ref (gB G + a)), (1, .ref (gB G + u1)), (2, .int u2)] [] μ
  refine x_iconst 0 dX2_mostOf_0 (by decide) ?_
  refine x_istore_n [1, 2, 3, 0] dX2_mostOf_1 (by decide) (lv' := [(0, .ref (gB G + a)), (1, .ref (gB G + u1)), (2, .int u2), (3, .int 0)]) rfl ?_
  exact tX2_mostOf_2  FU a u1 u2 0 μ hf
