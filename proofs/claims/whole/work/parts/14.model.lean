abbrev LX7_in (G : Gm) (p : Program) (l : Launch) (e : Env) (s : State) (m : MethodId) (args : Array Value) (below : List Frame) (meth : Method) (c : Code) (r : Int32 × Mu) (pc : Nat) (lv : List (Nat × Value)) (st : List Value) (μ : Mu) : Prop := Lt G p l e { frames := 0, cells := 0, slots := 0, locals := 40 * (0) } s m args below meth c cX7_in 3 RX7 (some .boolean) "in" (MQ below (Qm G (some (.int r.1)) r.2 0) args s 0 0 (fA G)) 0 0 pc lv st μ
def fX7_in (u1 : Int32) (u2 : Int32) (u3 : Int32) (μ : Mu) : Option (Int32 × Mu) := (if u1 < u2 then
    some (0, μ)
    else
    (if u3 < u1 then
    some (0, μ)
    else
    some (1, μ)))
set_option maxRecDepth 20000 in
theorem tX7_in {G : Gm} {l : Launch} {r : Int32 × Mu} (u1 : Int32) (u2 : Int32) (u3 : Int32) (μ : Mu) (hf : fX7_in u1 u2 u3 μ = some r) : Mt G l yX7_in cX7_in 3 (some .boolean) (0) 0 0 [.int u1, .int u2, .int u3] μ (some (.int r.1)) r.2 := by
  rw [fX7_in] at hf
  refine Mt.of (by decide) (Nat.le_of_ble_eq_true rfl) (fun p e s m args below meth c => ?_)
  show LX7_in G p l e s m args below meth c r 0 [(0, .int u1), (1, .int u2), (2, .int u3)] [] μ
  refine x_iload_n 0 dX7_in_0 rfl ?_
  refine x_iload_n 1 dX7_in_1 rfl ?_
  refine x_icmp_lt 14 dX7_in_2 rfl (fun c1 => ?_) (fun c1 => ?_)
  · rw [if_pos c1] at hf
    refine x_iconst 0 dX7_in_14 (by decide) ?_
    exact y_zret rfl (by decide) rfl rfl hf dX7_in_15
  · rw [if_neg c1] at hf
    refine x_iload_n 0 dX7_in_5 rfl ?_
    refine x_iload_n 2 dX7_in_6 rfl ?_
    refine x_icmp_gt 14 dX7_in_7 rfl (fun c2 => ?_) (fun c2 => ?_)
    · rw [if_pos c2] at hf
      refine x_iconst 0 dX7_in_14 (by decide) ?_
      exact y_zret rfl (by decide) rfl rfl hf dX7_in_15
    · rw [if_neg c2] at hf
      refine x_iconst 1 dX7_in_10 (by decide) ?_
      refine x_goto 15 dX7_in_11 rfl ?_
      exact y_zret rfl (by decide) rfl rfl hf dX7_in_15
abbrev LX7_has (G : Gm) (p : Program) (l : Launch) (e : Env) (s : State) (m : MethodId) (args : Array Value) (below : List Frame) (meth : Method) (c : Code) (r : Int32 × Mu) (pc : Nat) (lv : List (Nat × Value)) (st : List Value) (μ : Mu) : Prop := Lt G p l e { frames := 0, cells := 0, slots := 0, locals := 40 * (0) } s m args below meth c cX7_has 2 RX7 (some .boolean) "has" (MQ below (Qm G (some (.int r.1)) r.2 0) args s 0 0 (fA G)) 0 0 pc lv st μ
def fX7_has (u1 : Int32) (u2 : Int32) (μ : Mu) : Option (Int32 × Mu) := (if ((u1 >>> (u2 &&& 31)) &&& 1) = 1 then
    some (1, μ)
    else
    some (0, μ))
set_option maxRecDepth 20000 in
theorem tX7_has {G : Gm} {l : Launch} {r : Int32 × Mu} (u1 : Int32) (u2 : Int32) (μ : Mu) (hf : fX7_has u1 u2 μ = some r) : Mt G l yX7_has cX7_has 2 (some .boolean) (0) 0 0 [.int u1, .int u2] μ (some (.int r.1)) r.2 := by
  rw [fX7_has] at hf
  refine Mt.of (by decide) (Nat.le_of_ble_eq_true rfl) (fun p e s m args below meth c => ?_)
  show LX7_has G p l e s m args below meth c r 0 [(0, .int u1), (1, .int u2)] [] μ
  refine x_iload_n 0 dX7_has_0 rfl ?_
  refine x_iload_n 1 dX7_has_1 rfl ?_
  refine x_ishr dX7_has_2 ?_
  refine x_iconst 1 dX7_has_3 (by decide) ?_
  refine x_iand dX7_has_4 ?_
  refine x_iconst 1 dX7_has_5 (by decide) ?_
  refine x_icmp_ne 13 dX7_has_6 rfl (fun c1 => ?_) (fun c1 => ?_)
  · rw [if_neg c1] at hf
    refine x_iconst 0 dX7_has_13 (by decide) ?_
    exact y_zret rfl (by decide) rfl rfl hf dX7_has_14
  · rw [if_pos c1] at hf
    refine x_iconst 1 dX7_has_9 (by decide) ?_
    refine x_goto 14 dX7_has_10 rfl ?_
    exact y_zret rfl (by decide) rfl rfl hf dX7_has_14
abbrev LX7_ones (G : Gm) (p : Program) (l : Launch) (e : Env) (s : State) (m : MethodId) (args : Array Value) (below : List Frame) (meth : Method) (c : Code) (r : Int32 × Mu) (pc : Nat) (lv : List (Nat × Value)) (st : List Value) (μ : Mu) : Prop := Lt G p l e { frames := 0, cells := 0, slots := 0, locals := 40 * (0) } s m args below meth c cX7_ones 3 RX7 (some .int) "ones" (MQ below (Qm G (some (.int r.1)) r.2 0) args s 0 0 (fA G)) 0 0 pc lv st μ
def fX7_ones_4 : Nat → Int32 → Int32 → Int32 → Mu → Option (Int32 × Mu)
  | 0, _, _, _, _ => none
  | n + 1, v0, v1, v2, μ => (if 7 ≤ v2 then
    some (v1, μ)
    else
    (fX7_ones_4 n) v0 (v1 + ((v0 >>> (v2 &&& 31)) &&& 1)) (v2 + 1) μ)
set_option maxRecDepth 20000 in
theorem tX7_ones_4 {G : Gm} {p : Program} {l : Launch} {e : Env} {s : State} {m : MethodId} {args : Array Value} {below : List Frame} {meth : Method} {c : Code} {r : Int32 × Mu} : ∀ (n : Nat) (v0 : Int32) (v1 : Int32) (v2 : Int32) (μ : Mu), fX7_ones_4 n v0 v1 v2 μ = some r → LX7_ones G p l e s m args below meth c r 4 [(0, .int v0), (1, .int v1), (2, .int v2)] [] μ := by
  intro n
  induction n with
  | zero =>
    intro v0 v1 v2 μ hf
    simp [fX7_ones_4] at hf
  | succ n ih =>
    intro v0 v1 v2 μ hf
    rw [fX7_ones_4] at hf
    refine x_iload_n 2 dX7_ones_4 rfl ?_
    refine x_bipush 7 dX7_ones_5 (by decide) ?_
    refine x_icmp_ge 24 dX7_ones_7 rfl (fun c1 => ?_) (fun c1 => ?_)
    · rw [if_pos c1] at hf
      refine x_iload_n 1 dX7_ones_24 rfl ?_
      exact y_iret rfl rfl rfl hf dX7_ones_25
    · rw [if_neg c1] at hf
      refine x_iload_n 1 dX7_ones_10 rfl ?_
      refine x_iload_n 0 dX7_ones_11 rfl ?_
      refine x_iload_n 2 dX7_ones_12 rfl ?_
      refine x_ishr dX7_ones_13 ?_
      refine x_iconst 1 dX7_ones_14 (by decide) ?_
      refine x_iand dX7_ones_15 ?_
      refine x_iadd dX7_ones_16 ?_
      refine x_istore_n [1, 0, 2] dX7_ones_17 (by decide) (lv' := [(0, .int v0), (1, .int (v1 + ((v0 >>> (v2 &&& 31)) &&& 1))), (2, .int v2)]) rfl ?_
      refine x_iinc 2 (v2 + 1) [1, 2, 0] dX7_ones_18 rfl rfl (by decide) (lv' := [(0, .int v0), (1, .int (v1 + ((v0 >>> (v2 &&& 31)) &&& 1))), (2, .int (v2 + 1))]) rfl ?_
      refine x_goto 4 dX7_ones_21 rfl ?_
      exact ih v0 (v1 + ((v0 >>> (v2 &&& 31)) &&& 1)) (v2 + 1) μ hf
def fX7_ones (u1 : Int32) (μ : Mu) : Option (Int32 × Mu) := fX7_ones_4  FU u1 0 0 μ
set_option maxRecDepth 20000 in
theorem tX7_ones {G : Gm} {l : Launch} {r : Int32 × Mu} (u1 : Int32) (μ : Mu) (hf : fX7_ones u1 μ = some r) : Mt G l yX7_ones cX7_ones 3 (some .int) (0) 0 0 [.int u1] μ (some (.int r.1)) r.2 := by
  rw [fX7_ones] at hf
  refine Mt.of (by decide) (Nat.le_of_ble_eq_true rfl) (fun p e s m args below meth c => ?_)
  show LX7_ones G p l e s m args below meth c r 0 [(0, .int u1)] [] μ
  refine x_iconst 0 dX7_ones_0 (by decide) ?_
  refine x_istore_n [1, 0] dX7_ones_1 (by decide) (lv' := [(0, .int u1), (1, .int 0)]) rfl ?_
  refine x_iconst 0 dX7_ones_2 (by decide) ?_
  refine x_istore_n [1, 2, 0] dX7_ones_3 (by decide) (lv' := [(0, .int u1), (1, .int 0), (2, .int 0)]) rfl ?_
  exact tX7_ones_4  FU u1 0 0 μ hf
abbrev LX7_isPlot (G : Gm) (p : Program) (l : Launch) (e : Env) (s : State) (m : MethodId) (args : Array Value) (below : List Frame) (meth : Method) (c : Code) (r : Int32 × Mu) (pc : Nat) (lv : List (Nat × Value)) (st : List Value) (μ : Mu) : Prop := Lt G p l e { frames := 1, cells := 0, slots := 0, locals := 40 * (1) } s m args below meth c cX7_isPlot 2 RX7 (some .boolean) "isPlot" (MQ below (Qm G (some (.int r.1)) r.2 0) args s 0 0 (fA G)) 0 0 pc lv st μ
def fX7_isPlot (a : Nat) (u1 : Int32) (μ : Mu) : Option (Int32 × Mu) := grd (isO 7 a μ) ((gR 7 a 2 μ).bind fun x1 =>
    (aI 8 x1 0 μ).bind fun x3 =>
    (fX7_in u1 0 (x3 - 1) μ).bind fun q5 =>
    grd (q5.1 = 0 ∨ q5.1 = 1) (some (q5.1, q5.2)))
set_option maxRecDepth 20000 in
theorem tX7_isPlot {G : Gm} {l : Launch} {r : Int32 × Mu} (a : Nat) (u1 : Int32) (μ : Mu) (hf : fX7_isPlot a u1 μ = some r) : Mt G l yX7_isPlot cX7_isPlot 2 (some .boolean) (1) 0 0 [.ref (gB G + a), .int u1] μ (some (.int r.1)) r.2 := by
  rw [fX7_isPlot] at hf
  have hf := grd_v hf
  refine Mt.of (by decide) (Nat.le_of_ble_eq_true rfl) (fun p e s m args below meth c => ?_)
  show LX7_isPlot G p l e s m args below meth c r 0 [(0, .ref (gB G + a)), (1, .int u1)] [] μ
  refine x_iload_n 1 dX7_isPlot_0 rfl ?_
  refine x_iconst 0 dX7_isPlot_1 (by decide) ?_
  refine x_aload_n 0 dX7_isPlot_2 rfl ?_
  obtain ⟨x1, h2, hf⟩ := bnd hf
  refine x_getR wF_X7_13 (by decide) (by decide) rfl h2 dX7_isPlot_3 ?_
  refine x_iconst 0 dX7_isPlot_6 (by decide) ?_
  obtain ⟨x3, h4, hf⟩ := bnd hf
  refine x_iald h4 dX7_isPlot_7 ?_
  refine x_iconst 1 dX7_isPlot_8 (by decide) ?_
  refine x_isub dX7_isPlot_9 ?_
  obtain ⟨q5, h6, hf⟩ := bnd hf
  refine x_callSi (rest := []) [.int u1, .int 0, .int (x3 - 1)] (tX7_in u1 0 (x3 - 1) μ h6) wY_X7_in wT_X7_in wL_X7_56 rfl (Nat.le_of_ble_eq_true rfl) ⟨Nat.le_of_ble_eq_true rfl, Nat.le_of_ble_eq_true rfl⟩ ⟨Nat.le_refl _, Nat.le_refl _⟩ dX7_isPlot_10 ?_
  exact y_zret rfl (grd_p hf) rfl rfl (grd_v hf) dX7_isPlot_13
abbrev LX7_isHour (G : Gm) (p : Program) (l : Launch) (e : Env) (s : State) (m : MethodId) (args : Array Value) (below : List Frame) (meth : Method) (c : Code) (r : Int32 × Mu) (pc : Nat) (lv : List (Nat × Value)) (st : List Value) (μ : Mu) : Prop := Lt G p l e { frames := 1, cells := 0, slots := 0, locals := 40 * (1) } s m args below meth c cX7_isHour 2 RX7 (some .boolean) "isHour" (MQ below (Qm G (some (.int r.1)) r.2 0) args s 0 0 (fA G)) 0 0 pc lv st μ
def fX7_isHour (a : Nat) (u1 : Int32) (μ : Mu) : Option (Int32 × Mu) := grd (isO 7 a μ) ((gR 7 a 2 μ).bind fun x1 =>
    (aI 8 x1 1 μ).bind fun x3 =>
    (fX7_in u1 0 (x3 - 1) μ).bind fun q5 =>
    grd (q5.1 = 0 ∨ q5.1 = 1) (some (q5.1, q5.2)))
set_option maxRecDepth 20000 in
theorem tX7_isHour {G : Gm} {l : Launch} {r : Int32 × Mu} (a : Nat) (u1 : Int32) (μ : Mu) (hf : fX7_isHour a u1 μ = some r) : Mt G l yX7_isHour cX7_isHour 2 (some .boolean) (1) 0 0 [.ref (gB G + a), .int u1] μ (some (.int r.1)) r.2 := by
  rw [fX7_isHour] at hf
  have hf := grd_v hf
  refine Mt.of (by decide) (Nat.le_of_ble_eq_true rfl) (fun p e s m args below meth c => ?_)
  show LX7_isHour G p l e s m args below meth c r 0 [(0, .ref (gB G + a)), (1, .int u1)] [] μ
  refine x_iload_n 1 dX7_isHour_0 rfl ?_
  refine x_iconst 0 dX7_isHour_1 (by decide) ?_
  refine x_aload_n 0 dX7_isHour_2 rfl ?_
  obtain ⟨x1, h2, hf⟩ := bnd hf
  refine x_getR wF_X7_13 (by decide) (by decide) rfl h2 dX7_isHour_3 ?_
  refine x_iconst 1 dX7_isHour_6 (by decide) ?_
  obtain ⟨x3, h4, hf⟩ := bnd hf
  refine x_iald h4 dX7_isHour_7 ?_
  refine x_iconst 1 dX7_isHour_8 (by decide) ?_
  refine x_isub dX7_isHour_9 ?_
  obtain ⟨q5, h6, hf⟩ := bnd hf
  refine x_callSi (rest := []) [.int u1, .int 0, .int (x3 - 1)] (tX7_in u1 0 (x3 - 1) μ h6) wY_X7_in wT_X7_in wL_X7_56 rfl (Nat.le_of_ble_eq_true rfl) ⟨Nat.le_of_ble_eq_true rfl, Nat.le_of_ble_eq_true rfl⟩ ⟨Nat.le_refl _, Nat.le_refl _⟩ dX7_isHour_10 ?_
  exact y_zret rfl (grd_p hf) rfl rfl (grd_v hf) dX7_isHour_13
abbrev LX7_manyIn (G : Gm) (p : Program) (l : Launch) (e : Env) (s : State) (m : MethodId) (args : Array Value) (below : List Frame) (meth : Method) (c : Code) (r : Int32 × Mu) (pc : Nat) (lv : List (Nat × Value)) (st : List Value) (μ : Mu) : Prop := Lt G p l e { frames := 0, cells := 0, slots := 0, locals := 40 * (0) } s m args below meth c cX7_manyIn 4 RX7 (some .int) "manyIn" (MQ below (Qm G (some (.int r.1)) r.2 0) args s 0 0 (fA G)) 0 0 pc lv st μ
def fX7_manyIn_4 : Nat → Nat → Int32 → Int32 → Int32 → Mu → Option (Int32 × Mu)
  | 0, _, _, _, _, _ => none
  | n + 1, v0, v1, v2, v3, μ => (if 7 ≤ v3 then
    some (v2, μ)
    else
    (gR 7 v0 4 μ).bind fun x2 =>
    (aI 8 x2 (7 + v3) μ).bind fun x4 =>
    (if x4 = v1 then
    (fX7_manyIn_4 n) v0 v1 (v2 + 1) (v3 + 1) μ
    else
    (fX7_manyIn_4 n) v0 v1 (v2 + 0) (v3 + 1) μ))
set_option maxRecDepth 20000 in
theorem tX7_manyIn_4 {G : Gm} {p : Program} {l : Launch} {e : Env} {s : State} {m : MethodId} {args : Array Value} {below : List Frame} {meth : Method} {c : Code} {r : Int32 × Mu} : ∀ (n : Nat) (v0 : Nat) (v1 : Int32) (v2 : Int32) (v3 : Int32) (μ : Mu), fX7_manyIn_4 n v0 v1 v2 v3 μ = some r → LX7_manyIn G p l e s m args below meth c r 4 [(0, .ref (gB G + v0)), (1, .int v1), (2, .int v2), (3, .int v3)] [] μ := by
  intro n
  induction n with
  | zero =>
    intro v0 v1 v2 v3 μ hf
    simp [fX7_manyIn_4] at hf
  | succ n ih =>
    intro v0 v1 v2 v3 μ hf
    rw [fX7_manyIn_4] at hf
    refine x_iload_n 3 dX7_manyIn_4 rfl ?_
    refine x_bipush 7 dX7_manyIn_5 (by decide) ?_
    refine x_icmp_ge 37 dX7_manyIn_7 rfl (fun c1 => ?_) (fun c1 => ?_)
    · rw [if_pos c1] at hf
      refine x_iload_n 2 dX7_manyIn_37 rfl ?_
      exact y_iret rfl rfl rfl hf dX7_manyIn_38
    · rw [if_neg c1] at hf
      refine x_iload_n 2 dX7_manyIn_10 rfl ?_
      refine x_aload_n 0 dX7_manyIn_11 rfl ?_
      obtain ⟨x2, h3, hf⟩ := bnd hf
      refine x_getR wF_X7_19 (by decide) (by decide) rfl h3 dX7_manyIn_12 ?_
      refine x_bipush 7 dX7_manyIn_15 (by decide) ?_
      refine x_iload_n 3 dX7_manyIn_17 rfl ?_
      refine x_iadd dX7_manyIn_18 ?_
      obtain ⟨x4, h5, hf⟩ := bnd hf
      refine x_iald h5 dX7_manyIn_19 ?_
      refine x_iload_n 1 dX7_manyIn_20 rfl ?_
      refine x_icmp_ne 28 dX7_manyIn_21 rfl (fun c6 => ?_) (fun c6 => ?_)
      · rw [if_neg c6] at hf
        refine x_iconst 0 dX7_manyIn_28 (by decide) ?_
        refine x_iadd dX7_manyIn_29 ?_
        refine x_istore_n [1, 2, 0, 3] dX7_manyIn_30 (by decide) (lv' := [(0, .ref (gB G + v0)), (1, .int v1), (2, .int (v2 + 0)), (3, .int v3)]) rfl ?_
        refine x_iinc 3 (v3 + 1) [1, 2, 3, 0] dX7_manyIn_31 rfl rfl (by decide) (lv' := [(0, .ref (gB G + v0)), (1, .int v1), (2, .int (v2 + 0)), (3, .int (v3 + 1))]) rfl ?_
        refine x_goto 4 dX7_manyIn_34 rfl ?_
        exact ih v0 v1 (v2 + 0) (v3 + 1) μ hf
      · rw [if_pos c6] at hf
        refine x_iconst 1 dX7_manyIn_24 (by decide) ?_
        refine x_goto 29 dX7_manyIn_25 rfl ?_
        refine x_iadd dX7_manyIn_29 ?_
        refine x_istore_n [1, 2, 0, 3] dX7_manyIn_30 (by decide) (lv' := [(0, .ref (gB G + v0)), (1, .int v1), (2, .int (v2 + 1)), (3, .int v3)]) rfl ?_
        refine x_iinc 3 (v3 + 1) [1, 2, 3, 0] dX7_manyIn_31 rfl rfl (by decide) (lv' := [(0, .ref (gB G + v0)), (1, .int v1), (2, .int (v2 + 1)), (3, .int (v3 + 1))]) rfl ?_
        refine x_goto 4 dX7_manyIn_34 rfl ?_
        exact ih v0 v1 (v2 + 1) (v3 + 1) μ hf
def fX7_manyIn (a : Nat) (u1 : Int32) (μ : Mu) : Option (Int32 × Mu) := grd (isO 7 a μ) (fX7_manyIn_4  FU a u1 0 0 μ)
set_option maxRecDepth 20000 in
theorem tX7_manyIn {G : Gm} {l : Launch} {r : Int32 × Mu} (a : Nat) (u1 : Int32) (μ : Mu) (hf : fX7_manyIn a u1 μ = some r) : Mt G l yX7_manyIn cX7_manyIn 4 (some .int) (0) 0 0 [.ref (gB G + a), .int u1] μ (some (.int r.1)) r.2 := by
  rw [fX7_manyIn] at hf
  have hf := grd_v hf
  refine Mt.of (by decide) (Nat.le_of_ble_eq_true rfl) (fun p e s m args below meth c => ?_)
  show LX7_manyIn G p l e s m args below meth c r 0 [(0, .ref (gB G + a)), (1, .int u1)] [] μ
  refine x_iconst 0 dX7_manyIn_0 (by decide) ?_
  refine x_istore_n [1, 2, 0] dX7_manyIn_1 (by decide) (lv' := [(0, .ref (gB G + a)), (1, .int u1), (2, .int 0)]) rfl ?_
  refine x_iconst 0 dX7_manyIn_2 (by decide) ?_
  refine x_istore_n [1, 2, 3, 0] dX7_manyIn_3 (by decide) (lv' := [(0, .ref (gB G + a)), (1, .int u1), (2, .int 0), (3, .int 0)]) rfl ?_
  exact tX7_manyIn_4  FU a u1 0 0 μ hf
abbrev LX7_lying (G : Gm) (p : Program) (l : Launch) (e : Env) (s : State) (m : MethodId) (args : Array Value) (below : List Frame) (meth : Method) (c : Code) (r : Int32 × Mu) (pc : Nat) (lv : List (Nat × Value)) (st : List Value) (μ : Mu) : Prop := Lt G p l e { frames := 0, cells := 0, slots := 0, locals := 40 * (0) } s m args below meth c cX7_lying 5 RX7 (some .int) "lying" (MQ below (Qm G (some (.int r.1)) r.2 0) args s 0 0 (fA G)) 0 0 pc lv st μ
def fX7_lying_6 : Nat → Nat → Int32 → Int32 → Int32 → Int32 → Mu → Option (Int32 × Mu)
  | 0, _, _, _, _, _, _ => none
  | n + 1, v0, v1, v2, v3, v4, μ => (if 7 ≤ v4 then
    some (v3, μ)
    else
    (gR 7 v0 4 μ).bind fun x2 =>
    (aI 8 x2 (7 + v4) μ).bind fun x4 =>
    (if x4 = v1 then
    (gR 7 v0 4 μ).bind fun x7 =>
    (aI 8 x7 (14 + v4) μ).bind fun x9 =>
    (if x9 = v2 then
    (fX7_lying_6 n) v0 v1 v2 v4 (v4 + 1) μ
    else
    (fX7_lying_6 n) v0 v1 v2 v3 (v4 + 1) μ)
    else
    (fX7_lying_6 n) v0 v1 v2 v3 (v4 + 1) μ))
set_option maxRecDepth 20000 in
theorem tX7_lying_6 {G : Gm} {p : Program} {l : Launch} {e : Env} {s : State} {m : MethodId} {args : Array Value} {below : List Frame} {meth : Method} {c : Code} {r : Int32 × Mu} : ∀ (n : Nat) (v0 : Nat) (v1 : Int32) (v2 : Int32) (v3 : Int32) (v4 : Int32) (μ : Mu), fX7_lying_6 n v0 v1 v2 v3 v4 μ = some r → LX7_lying G p l e s m args below meth c r 6 [(0, .ref (gB G + v0)), (1, .int v1), (2, .int v2), (3, .int v3), (4, .int v4)] [] μ := by
  intro n
  induction n with
  | zero =>
    intro v0 v1 v2 v3 v4 μ hf
    simp [fX7_lying_6] at hf
  | succ n ih =>
    intro v0 v1 v2 v3 v4 μ hf
    rw [fX7_lying_6] at hf
    refine x_iload 4 dX7_lying_6 rfl ?_
    refine x_bipush 7 dX7_lying_8 (by decide) ?_
    refine x_icmp_ge 54 dX7_lying_10 rfl (fun c1 => ?_) (fun c1 => ?_)
    · rw [if_pos c1] at hf
      refine x_iload_n 3 dX7_lying_54 rfl ?_
      exact y_iret rfl rfl rfl hf dX7_lying_55
    · rw [if_neg c1] at hf
      refine x_aload_n 0 dX7_lying_13 rfl ?_
      obtain ⟨x2, h3, hf⟩ := bnd hf
      refine x_getR wF_X7_19 (by decide) (by decide) rfl h3 dX7_lying_14 ?_
      refine x_bipush 7 dX7_lying_17 (by decide) ?_
      refine x_iload 4 dX7_lying_19 rfl ?_
      refine x_iadd dX7_lying_21 ?_
      obtain ⟨x4, h5, hf⟩ := bnd hf
      refine x_iald h5 dX7_lying_22 ?_
      refine x_iload_n 1 dX7_lying_23 rfl ?_
      refine x_icmp_ne 46 dX7_lying_24 rfl (fun c6 => ?_) (fun c6 => ?_)
      · rw [if_neg c6] at hf
        refine x_iload_n 3 dX7_lying_46 rfl ?_
        refine x_istore_n [1, 2, 3, 0, 4] dX7_lying_47 (by decide) (lv' := [(0, .ref (gB G + v0)), (1, .int v1), (2, .int v2), (3, .int v3), (4, .int v4)]) rfl ?_
        refine x_iinc 4 (v4 + 1) [1, 2, 3, 4, 0] dX7_lying_48 rfl rfl (by decide) (lv' := [(0, .ref (gB G + v0)), (1, .int v1), (2, .int v2), (3, .int v3), (4, .int (v4 + 1))]) rfl ?_
        refine x_goto 6 dX7_lying_51 rfl ?_
        exact ih v0 v1 v2 v3 (v4 + 1) μ hf
      · rw [if_pos c6] at hf
        refine x_aload_n 0 dX7_lying_27 rfl ?_
        obtain ⟨x7, h8, hf⟩ := bnd hf
        refine x_getR wF_X7_19 (by decide) (by decide) rfl h8 dX7_lying_28 ?_
        refine x_bipush 14 dX7_lying_31 (by decide) ?_
        refine x_iload 4 dX7_lying_33 rfl ?_
        refine x_iadd dX7_lying_35 ?_
        obtain ⟨x9, h10, hf⟩ := bnd hf
        refine x_iald h10 dX7_lying_36 ?_
        refine x_iload_n 2 dX7_lying_37 rfl ?_
        refine x_icmp_ne 46 dX7_lying_38 rfl (fun c11 => ?_) (fun c11 => ?_)
        · rw [if_neg c11] at hf
          refine x_iload_n 3 dX7_lying_46 rfl ?_
          refine x_istore_n [1, 2, 3, 0, 4] dX7_lying_47 (by decide) (lv' := [(0, .ref (gB G + v0)), (1, .int v1), (2, .int v2), (3, .int v3), (4, .int v4)]) rfl ?_
          refine x_iinc 4 (v4 + 1) [1, 2, 3, 4, 0] dX7_lying_48 rfl rfl (by decide) (lv' := [(0, .ref (gB G + v0)), (1, .int v1), (2, .int v2), (3, .int v3), (4, .int (v4 + 1))]) rfl ?_
          refine x_goto 6 dX7_lying_51 rfl ?_
          exact ih v0 v1 v2 v3 (v4 + 1) μ hf
        · rw [if_pos c11] at hf
          refine x_iload 4 dX7_lying_41 rfl ?_
          refine x_goto 47 dX7_lying_43 rfl ?_
          refine x_istore_n [1, 2, 3, 0, 4] dX7_lying_47 (by decide) (lv' := [(0, .ref (gB G + v0)), (1, .int v1), (2, .int v2), (3, .int v4), (4, .int v4)]) rfl ?_
          refine x_iinc 4 (v4 + 1) [1, 2, 3, 4, 0] dX7_lying_48 rfl rfl (by decide) (lv' := [(0, .ref (gB G + v0)), (1, .int v1), (2, .int v2), (3, .int v4), (4, .int (v4 + 1))]) rfl ?_
          refine x_goto 6 dX7_lying_51 rfl ?_
          exact ih v0 v1 v2 v4 (v4 + 1) μ hf
def fX7_lying (a : Nat) (u1 : Int32) (u2 : Int32) (μ : Mu) : Option (Int32 × Mu) := grd (isO 7 a μ) (fX7_lying_6  FU a u1 u2 (-4) 0 μ)
set_option maxRecDepth 20000 in
theorem tX7_lying {G : Gm} {l : Launch} {r : Int32 × Mu} (a : Nat) (u1 : Int32) (u2 : Int32) (μ : Mu) (hf : fX7_lying a u1 u2 μ = some r) : Mt G l yX7_lying cX7_lying 5 (some .int) (0) 0 0 [.ref (gB G + a), .int u1, .int u2] μ (some (.int r.1)) r.2 := by
  rw [fX7_lying] at hf
  have hf := grd_v hf
  refine Mt.of (by decide) (Nat.le_of_ble_eq_true rfl) (fun p e s m args below meth c => ?_)
  show LX7_lying G p l e s m args below meth c r 0 [(0, .ref (gB G + a)), (1, .int u1), (2, .int u2)] [] μ
  refine x_bipush (-4) dX7_lying_0 (by decide) ?_
  refine x_istore_n [1, 2, 3, 0] dX7_lying_2 (by decide) (lv' := [(0, .ref (gB G + a)), (1, .int u1), (2, .int u2), (3, .int (-4))]) rfl ?_
  refine x_iconst 0 dX7_lying_3 (by decide) ?_
  refine x_istore [1, 2, 3, 4, 0] dX7_lying_4 (by decide) (lv' := [(0, .ref (gB G + a)), (1, .int u1), (2, .int u2), (3, .int (-4)), (4, .int 0)]) rfl ?_
  exact tX7_lying_6  FU a u1 u2 (-4) 0 μ hf
abbrev LX7_topOf (G : Gm) (p : Program) (l : Launch) (e : Env) (s : State) (m : MethodId) (args : Array Value) (below : List Frame) (meth : Method) (c : Code) (r : Int32 × Mu) (pc : Nat) (lv : List (Nat × Value)) (st : List Value) (μ : Mu) : Prop := Lt G p l e { frames := 1, cells := 0, slots := 0, locals := 40 * (1) } s m args below meth c cX7_topOf 2 RX7 (some .int) "topOf" (MQ below (Qm G (some (.int r.1)) r.2 0) args s 0 0 (fA G)) 0 0 pc lv st μ
def fX7_topOf (a : Nat) (u1 : Int32) (μ : Mu) : Option (Int32 × Mu) := grd (isO 7 a μ) ((fX7_manyIn a u1 μ).bind fun q1 =>
    (fX7_lying a u1 (q1.1 - 1) q1.2).bind fun q3 =>
    some (q3.1, q3.2))
set_option maxRecDepth 20000 in
theorem tX7_topOf {G : Gm} {l : Launch} {r : Int32 × Mu} (a : Nat) (u1 : Int32) (μ : Mu) (hf : fX7_topOf a u1 μ = some r) : Mt G l yX7_topOf cX7_topOf 2 (some .int) (1) 0 0 [.ref (gB G + a), .int u1] μ (some (.int r.1)) r.2 := by
  rw [fX7_topOf] at hf
  have hf := grd_v hf
  refine Mt.of (by decide) (Nat.le_of_ble_eq_true rfl) (fun p e s m args below meth c => ?_)
  show LX7_topOf G p l e s m args below meth c r 0 [(0, .ref (gB G + a)), (1, .int u1)] [] μ
  refine x_aload_n 0 dX7_topOf_0 rfl ?_
  refine x_iload_n 1 dX7_topOf_1 rfl ?_
  refine x_aload_n 0 dX7_topOf_2 rfl ?_
  refine x_iload_n 1 dX7_topOf_3 rfl ?_
  obtain ⟨q1, h2, hf⟩ := bnd hf
  refine x_callVi (rest := [.int u1, .ref (gB G + a)]) [.int u1] (tX7_manyIn a u1 μ h2) wY_X7_manyIn wI_X7_manyIn wS_X7_manyIn wL_X7_60 (grd_p h2) (by decide) rfl rfl (Nat.le_of_ble_eq_true rfl) ⟨Nat.le_of_ble_eq_true rfl, Nat.le_of_ble_eq_true rfl⟩ ⟨Nat.le_refl _, Nat.le_refl _⟩ dX7_topOf_4 ?_
  refine x_iconst 1 dX7_topOf_7 (by decide) ?_
  refine x_isub dX7_topOf_8 ?_
  obtain ⟨q3, h4, hf⟩ := bnd hf
  refine x_callVi (rest := []) [.int u1, .int (q1.1 - 1)] (tX7_lying a u1 (q1.1 - 1) q1.2 h4) wY_X7_lying wI_X7_lying wS_X7_lying wL_X7_64 (grd_p h4) (by decide) rfl rfl (Nat.le_of_ble_eq_true rfl) ⟨Nat.le_of_ble_eq_true rfl, Nat.le_of_ble_eq_true rfl⟩ ⟨Nat.le_refl _, Nat.le_refl _⟩ dX7_topOf_9 ?_
  exact y_iret rfl rfl rfl hf dX7_topOf_12
abbrev LX7_needs (G : Gm) (p : Program) (l : Launch) (e : Env) (s : State) (m : MethodId) (args : Array Value) (below : List Frame) (meth : Method) (c : Code) (r : Int32 × Mu) (pc : Nat) (lv : List (Nat × Value)) (st : List Value) (μ : Mu) : Prop := Lt G p l e { frames := 0, cells := 0, slots := 0, locals := 40 * (0) } s m args below meth c cX7_needs 2 RX7 (some .int) "needs" (MQ below (Qm G (some (.int r.1)) r.2 0) args s 0 0 (fA G)) 0 0 pc lv st μ
def fX7_needs (u1 : Int32) (u2 : Int32) (μ : Mu) : Option (Int32 × Mu) := (if u1 = 1 then
    some (2, μ)
    else
    (if u1 = 2 then
    (if u2 = 2 then
    some (0, μ)
    else
    some (1, μ))
    else
    some (1, μ)))
set_option maxRecDepth 20000 in
theorem tX7_needs {G : Gm} {l : Launch} {r : Int32 × Mu} (u1 : Int32) (u2 : Int32) (μ : Mu) (hf : fX7_needs u1 u2 μ = some r) : Mt G l yX7_needs cX7_needs 2 (some .int) (0) 0 0 [.int u1, .int u2] μ (some (.int r.1)) r.2 := by
  rw [fX7_needs] at hf
  refine Mt.of (by decide) (Nat.le_of_ble_eq_true rfl) (fun p e s m args below meth c => ?_)
  show LX7_needs G p l e s m args below meth c r 0 [(0, .int u1), (1, .int u2)] [] μ
  refine x_iload_n 0 dX7_needs_0 rfl ?_
  refine x_iconst 1 dX7_needs_1 (by decide) ?_
  refine x_icmp_ne 9 dX7_needs_2 rfl (fun c1 => ?_) (fun c1 => ?_)
  · rw [if_neg c1] at hf
    refine x_iload_n 0 dX7_needs_9 rfl ?_
    refine x_iconst 2 dX7_needs_10 (by decide) ?_
    refine x_icmp_ne 23 dX7_needs_11 rfl (fun c2 => ?_) (fun c2 => ?_)
    · rw [if_neg c2] at hf
      refine x_iconst 1 dX7_needs_23 (by decide) ?_
      exact y_iret rfl rfl rfl hf dX7_needs_24
    · rw [if_pos c2] at hf
      refine x_iload_n 1 dX7_needs_14 rfl ?_
      refine x_iconst 2 dX7_needs_15 (by decide) ?_
      refine x_icmp_ne 23 dX7_needs_16 rfl (fun c3 => ?_) (fun c3 => ?_)
      · rw [if_neg c3] at hf
        refine x_iconst 1 dX7_needs_23 (by decide) ?_
        exact y_iret rfl rfl rfl hf dX7_needs_24
      · rw [if_pos c3] at hf
        refine x_iconst 0 dX7_needs_19 (by decide) ?_
        refine x_goto 24 dX7_needs_20 rfl ?_
        exact y_iret rfl rfl rfl hf dX7_needs_24
  · rw [if_pos c1] at hf
    refine x_iconst 2 dX7_needs_5 (by decide) ?_
    refine x_goto 24 dX7_needs_6 rfl ?_
    exact y_iret rfl rfl rfl hf dX7_needs_24
abbrev LX7_kindOf (G : Gm) (p : Program) (l : Launch) (e : Env) (s : State) (m : MethodId) (args : Array Value) (below : List Frame) (meth : Method) (c : Code) (r : Int32 × Mu) (pc : Nat) (lv : List (Nat × Value)) (st : List Value) (μ : Mu) : Prop := Lt G p l e { frames := 0, cells := 0, slots := 0, locals := 40 * (0) } s m args below meth c cX7_kindOf 3 RX7 (some .int) "kindOf" (MQ below (Qm G (some (.int r.1)) r.2 0) args s 0 0 (fA G)) 0 0 pc lv st μ
def fX7_kindOf (a : Nat) (u1 : Int32) (u2 : Int32) (μ : Mu) : Option (Int32 × Mu) := grd (isO 7 a μ) ((if u1 = (-4) then
    some ((-4), μ)
    else
    (if u2 = 0 then
    (gR 7 a 2 μ).bind fun x3 =>
    (aI 8 x3 (2 + u1) μ).bind fun x5 =>
    some (x5, μ)
    else
    (gR 7 a 3 μ).bind fun x7 =>
    (aI 8 x7 (2 + u1) μ).bind fun x9 =>
    some (x9, μ))))
set_option maxRecDepth 20000 in
theorem tX7_kindOf {G : Gm} {l : Launch} {r : Int32 × Mu} (a : Nat) (u1 : Int32) (u2 : Int32) (μ : Mu) (hf : fX7_kindOf a u1 u2 μ = some r) : Mt G l yX7_kindOf cX7_kindOf 3 (some .int) (0) 0 0 [.ref (gB G + a), .int u1, .int u2] μ (some (.int r.1)) r.2 := by
  rw [fX7_kindOf] at hf
  have hf := grd_v hf
  refine Mt.of (by decide) (Nat.le_of_ble_eq_true rfl) (fun p e s m args below meth c => ?_)
  show LX7_kindOf G p l e s m args below meth c r 0 [(0, .ref (gB G + a)), (1, .int u1), (2, .int u2)] [] μ
  refine x_iload_n 1 dX7_kindOf_0 rfl ?_
  refine x_bipush (-4) dX7_kindOf_1 (by decide) ?_
  refine x_icmp_ne 11 dX7_kindOf_3 rfl (fun c1 => ?_) (fun c1 => ?_)
  · rw [if_neg c1] at hf
    refine x_iload_n 2 dX7_kindOf_11 rfl ?_
    refine x_if_eq 26 dX7_kindOf_12 rfl (fun c2 => ?_) (fun c2 => ?_)
    · rw [if_pos c2] at hf
      refine x_aload_n 0 dX7_kindOf_26 rfl ?_
      obtain ⟨x3, h4, hf⟩ := bnd hf
      refine x_getR wF_X7_13 (by decide) (by decide) rfl h4 dX7_kindOf_27 ?_
      refine x_iconst 2 dX7_kindOf_30 (by decide) ?_
      refine x_iload_n 1 dX7_kindOf_31 rfl ?_
      refine x_iadd dX7_kindOf_32 ?_
      obtain ⟨x5, h6, hf⟩ := bnd hf
      refine x_iald h6 dX7_kindOf_33 ?_
      exact y_iret rfl rfl rfl hf dX7_kindOf_34
    · rw [if_neg c2] at hf
      refine x_aload_n 0 dX7_kindOf_15 rfl ?_
      obtain ⟨x7, h8, hf⟩ := bnd hf
      refine x_getR wF_X7_16 (by decide) (by decide) rfl h8 dX7_kindOf_16 ?_
      refine x_iconst 2 dX7_kindOf_19 (by decide) ?_
      refine x_iload_n 1 dX7_kindOf_20 rfl ?_
      refine x_iadd dX7_kindOf_21 ?_
      obtain ⟨x9, h10, hf⟩ := bnd hf
      refine x_iald h10 dX7_kindOf_22 ?_
      refine x_goto 34 dX7_kindOf_23 rfl ?_
      exact y_iret rfl rfl rfl hf dX7_kindOf_34
  · rw [if_pos c1] at hf
    refine x_bipush (-4) dX7_kindOf_6 (by decide) ?_
    refine x_goto 34 dX7_kindOf_8 rfl ?_
    exact y_iret rfl rfl rfl hf dX7_kindOf_34
abbrev LX7_allNeeds (G : Gm) (p : Program) (l : Launch) (e : Env) (s : State) (m : MethodId) (args : Array Value) (below : List Frame) (meth : Method) (c : Code) (r : Int32 × Mu) (pc : Nat) (lv : List (Nat × Value)) (st : List Value) (μ : Mu) : Prop := Lt G p l e { frames := 1, cells := 0, slots := 0, locals := 40 * (1) } s m args below meth c cX7_allNeeds 7 RX7 (some .int) "allNeeds" (MQ below (Qm G (some (.int r.1)) r.2 0) args s 0 0 (fA G)) 0 0 pc lv st μ
def fX7_allNeeds_9 : Nat → Nat → Int32 → Int32 → Int32 → Int32 → Int32 → Mu → Option (Int32 × Mu)
  | 0, _, _, _, _, _, _, _ => none
  | n + 1, v0, v1, v2, v3, v4, v5, μ => (fX7_manyIn v0 v1 μ).bind fun q1 =>
    (if q1.1 ≤ v5 then
    some (v3, q1.2)
    else
    (fX7_lying v0 v1 v5 q1.2).bind fun q4 =>
    (fX7_kindOf v0 q4.1 v2 q4.2).bind fun q6 =>
    (fX7_needs q6.1 v4 q6.2).bind fun q8 =>
    (fX7_allNeeds_9 n) v0 v1 v2 (v3 + q8.1) q6.1 (v5 + 1) q8.2)
set_option maxRecDepth 20000 in
theorem tX7_allNeeds_9 {G : Gm} {p : Program} {l : Launch} {e : Env} {s : State} {m : MethodId} {args : Array Value} {below : List Frame} {meth : Method} {c : Code} {r : Int32 × Mu} : ∀ (n : Nat) (v0 : Nat) (v1 : Int32) (v2 : Int32) (v3 : Int32) (v4 : Int32) (v5 : Int32) (μ : Mu), fX7_allNeeds_9 n v0 v1 v2 v3 v4 v5 μ = some r → LX7_allNeeds G p l e s m args below meth c r 9 [(0, .ref (gB G + v0)), (1, .int v1), (2, .int v2), (3, .int v3), (4, .int v4), (5, .int v5)] [] μ := by
  intro n
  induction n with
  | zero =>
    intro v0 v1 v2 v3 v4 v5 μ hf
    simp [fX7_allNeeds_9] at hf
  | succ n ih =>
    intro v0 v1 v2 v3 v4 v5 μ hf
    rw [fX7_allNeeds_9] at hf
    refine x_iload 5 dX7_allNeeds_9 rfl ?_
    refine x_aload_n 0 dX7_allNeeds_11 rfl ?_
    refine x_iload_n 1 dX7_allNeeds_12 rfl ?_
    obtain ⟨q1, h2, hf⟩ := bnd hf
    refine x_callVi (rest := [.int v5]) [.int v1] (tX7_manyIn v0 v1 μ h2) wY_X7_manyIn wI_X7_manyIn wS_X7_manyIn wL_X7_60 (grd_p h2) (by decide) rfl rfl (Nat.le_of_ble_eq_true rfl) ⟨Nat.le_of_ble_eq_true rfl, Nat.le_of_ble_eq_true rfl⟩ ⟨Nat.le_refl _, Nat.le_refl _⟩ dX7_allNeeds_13 ?_
    refine x_icmp_ge 53 dX7_allNeeds_16 rfl (fun c3 => ?_) (fun c3 => ?_)
    · rw [if_pos c3] at hf
      refine x_iload_n 3 dX7_allNeeds_53 rfl ?_
      exact y_iret rfl rfl rfl hf dX7_allNeeds_54
    · rw [if_neg c3] at hf
      refine x_aload_n 0 dX7_allNeeds_19 rfl ?_
      refine x_aload_n 0 dX7_allNeeds_20 rfl ?_
      refine x_iload_n 1 dX7_allNeeds_21 rfl ?_
      refine x_iload 5 dX7_allNeeds_22 rfl ?_
      obtain ⟨q4, h5, hf⟩ := bnd hf
      refine x_callVi (rest := [.ref (gB G + v0)]) [.int v1, .int v5] (tX7_lying v0 v1 v5 q1.2 h5) wY_X7_lying wI_X7_lying wS_X7_lying wL_X7_64 (grd_p h5) (by decide) rfl rfl (Nat.le_of_ble_eq_true rfl) ⟨Nat.le_of_ble_eq_true rfl, Nat.le_of_ble_eq_true rfl⟩ ⟨Nat.le_refl _, Nat.le_refl _⟩ dX7_allNeeds_24 ?_
      refine x_iload_n 2 dX7_allNeeds_27 rfl ?_
      obtain ⟨q6, h7, hf⟩ := bnd hf
      refine x_callVi (rest := []) [.int q4.1, .int v2] (tX7_kindOf v0 q4.1 v2 q4.2 h7) wY_X7_kindOf wI_X7_kindOf wS_X7_kindOf wL_X7_68 (grd_p h7) (by decide) rfl rfl (Nat.le_of_ble_eq_true rfl) ⟨Nat.le_of_ble_eq_true rfl, Nat.le_of_ble_eq_true rfl⟩ ⟨Nat.le_refl _, Nat.le_refl _⟩ dX7_allNeeds_28 ?_
      refine x_istore [1, 2, 3, 4, 5, 6, 0] dX7_allNeeds_31 (by decide) (lv' := [(0, .ref (gB G + v0)), (1, .int v1), (2, .int v2), (3, .int v3), (4, .int v4), (5, .int v5), (6, .int q6.1)]) rfl ?_
      refine x_iload_n 3 dX7_allNeeds_33 rfl ?_
      refine x_iload 6 dX7_allNeeds_34 rfl ?_
      refine x_iload 4 dX7_allNeeds_36 rfl ?_
      obtain ⟨q8, h9, hf⟩ := bnd hf
      refine x_callSi (rest := [.int v3]) [.int q6.1, .int v4] (tX7_needs q6.1 v4 q6.2 h9) wY_X7_needs wT_X7_needs wL_X7_72 rfl (Nat.le_of_ble_eq_true rfl) ⟨Nat.le_of_ble_eq_true rfl, Nat.le_of_ble_eq_true rfl⟩ ⟨Nat.le_refl _, Nat.le_refl _⟩ dX7_allNeeds_38 ?_
      refine x_iadd dX7_allNeeds_41 ?_
      refine x_istore_n [1, 2, 3, 0, 4, 5, 6] dX7_allNeeds_42 (by decide) (lv' := [(0, .ref (gB G + v0)), (1, .int v1), (2, .int v2), (3, .int (v3 + q8.1)), (4, .int v4), (5, .int v5), (6, .int q6.1)]) rfl ?_
      refine x_iload 6 dX7_allNeeds_43 rfl ?_
      refine x_istore [1, 2, 3, 4, 0, 5, 6] dX7_allNeeds_45 (by decide) (lv' := [(0, .ref (gB G + v0)), (1, .int v1), (2, .int v2), (3, .int (v3 + q8.1)), (4, .int q6.1), (5, .int v5), (6, .int q6.1)]) rfl ?_
      refine x_iinc 5 (v5 + 1) [1, 2, 3, 4, 5, 0, 6] dX7_allNeeds_47 rfl rfl (by decide) (lv' := [(0, .ref (gB G + v0)), (1, .int v1), (2, .int v2), (3, .int (v3 + q8.1)), (4, .int q6.1), (5, .int (v5 + 1)), (6, .int q6.1)]) rfl ?_
      refine x_goto 9 dX7_allNeeds_50 rfl ?_
      refine x_sub [0, 1, 2, 3, 4, 5] (lv' := [(0, .ref (gB G + v0)), (1, .int v1), (2, .int v2), (3, .int (v3 + q8.1)), (4, .int q6.1), (5, .int (v5 + 1))]) rfl ?_
      exact ih v0 v1 v2 (v3 + q8.1) q6.1 (v5 + 1) q8.2 hf
def fX7_allNeeds (a : Nat) (u1 : Int32) (u2 : Int32) (μ : Mu) : Option (Int32 × Mu) := grd (isO 7 a μ) (fX7_allNeeds_9  FU a u1 u2 0 (-4) 0 μ)
set_option maxRecDepth 20000 in
theorem tX7_allNeeds {G : Gm} {l : Launch} {r : Int32 × Mu} (a : Nat) (u1 : Int32) (u2 : Int32) (μ : Mu) (hf : fX7_allNeeds a u1 u2 μ = some r) : Mt G l yX7_allNeeds cX7_allNeeds 7 (some .int) (1) 0 0 [.ref (gB G + a), .int u1, .int u2] μ (some (.int r.1)) r.2 := by
  rw [fX7_allNeeds] at hf
  have hf := grd_v hf
  refine Mt.of (by decide) (Nat.le_of_ble_eq_true rfl) (fun p e s m args below meth c => ?_)
  show LX7_allNeeds G p l e s m args below meth c r 0 [(0, .ref (gB G + a)), (1, .int u1), (2, .int u2)] [] μ
  refine x_iconst 0 dX7_allNeeds_0 (by decide) ?_
  refine x_istore_n [1, 2, 3, 0] dX7_allNeeds_1 (by decide) (lv' := [(0, .ref (gB G + a)), (1, .int u1), (2, .int u2), (3, .int 0)]) rfl ?_
  refine x_bipush (-4) dX7_allNeeds_2 (by decide) ?_
  refine x_istore [1, 2, 3, 4, 0] dX7_allNeeds_4 (by decide) (lv' := [(0, .ref (gB G + a)), (1, .int u1), (2, .int u2), (3, .int 0), (4, .int (-4))]) rfl ?_
  refine x_iconst 0 dX7_allNeeds_6 (by decide) ?_
  refine x_istore [1, 2, 3, 4, 5, 0] dX7_allNeeds_7 (by decide) (lv' := [(0, .ref (gB G + a)), (1, .int u1), (2, .int u2), (3, .int 0), (4, .int (-4)), (5, .int 0)]) rfl ?_
  exact tX7_allNeeds_9  FU a u1 u2 0 (-4) 0 μ hf
abbrev LX7_isFit (G : Gm) (p : Program) (l : Launch) (e : Env) (s : State) (m : MethodId) (args : Array Value) (below : List Frame) (meth : Method) (c : Code) (r : Int32 × Mu) (pc : Nat) (lv : List (Nat × Value)) (st : List Value) (μ : Mu) : Prop := Lt G p l e { frames := 2, cells := 0, slots := 0, locals := 40 * (2) } s m args below meth c cX7_isFit 5 RX7 (some .boolean) "isFit" (MQ below (Qm G (some (.int r.1)) r.2 0) args s 0 0 (fA G)) 0 0 pc lv st μ
def fX7_isFit (a : Nat) (u1 : Int32) (u2 : Int32) (u3 : Int32) (μ : Mu) : Option (Int32 × Mu) := grd (isO 7 a μ) ((fX7_topOf a u2 μ).bind fun q1 =>
    (fX7_kindOf a q1.1 u3 q1.2).bind fun q3 =>
    (if q3.1 = 3 then
    some (0, q3.2)
    else
    (fX7_allNeeds a u2 u3 q3.2).bind fun q6 =>
    (fX7_needs u1 q3.1 q6.2).bind fun q8 =>
    (gR 7 a 4 q8.2).bind fun x10 =>
    (aI 8 x10 (2 + u2) q8.2).bind fun x12 =>
    (if x12 < (q6.1 + q8.1) then
    some (0, q8.2)
    else
    some (1, q8.2))))
set_option maxRecDepth 20000 in
theorem tX7_isFit {G : Gm} {l : Launch} {r : Int32 × Mu} (a : Nat) (u1 : Int32) (u2 : Int32) (u3 : Int32) (μ : Mu) (hf : fX7_isFit a u1 u2 u3 μ = some r) : Mt G l yX7_isFit cX7_isFit 5 (some .boolean) (2) 0 0 [.ref (gB G + a), .int u1, .int u2, .int u3] μ (some (.int r.1)) r.2 := by
  rw [fX7_isFit] at hf
  have hf := grd_v hf
  refine Mt.of (by decide) (Nat.le_of_ble_eq_true rfl) (fun p e s m args below meth c => ?_)
  show LX7_isFit G p l e s m args below meth c r 0 [(0, .ref (gB G + a)), (1, .int u1), (2, .int u2), (3, .int u3)] [] μ
  refine x_aload_n 0 dX7_isFit_0 rfl ?_
  refine x_aload_n 0 dX7_isFit_1 rfl ?_
  refine x_iload_n 2 dX7_isFit_2 rfl ?_
  obtain ⟨q1, h2, hf⟩ := bnd hf
  refine x_callVi (rest := [.ref (gB G + a)]) [.int u2] (tX7_topOf a u2 μ h2) wY_X7_topOf wI_X7_topOf wS_X7_topOf wL_X7_75 (grd_p h2) (by decide) rfl rfl (Nat.le_of_ble_eq_true rfl) ⟨Nat.le_of_ble_eq_true rfl, Nat.le_of_ble_eq_true rfl⟩ ⟨Nat.le_refl _, Nat.le_refl _⟩ dX7_isFit_3 ?_
  refine x_iload_n 3 dX7_isFit_6 rfl ?_
  obtain ⟨q3, h4, hf⟩ := bnd hf
  refine x_callVi (rest := []) [.int q1.1, .int u3] (tX7_kindOf a q1.1 u3 q1.2 h4) wY_X7_kindOf wI_X7_kindOf wS_X7_kindOf wL_X7_68 (grd_p h4) (by decide) rfl rfl (Nat.le_of_ble_eq_true rfl) ⟨Nat.le_of_ble_eq_true rfl, Nat.le_of_ble_eq_true rfl⟩ ⟨Nat.le_refl _, Nat.le_refl _⟩ dX7_isFit_7 ?_
  refine x_istore [1, 2, 3, 4, 0] dX7_isFit_10 (by decide) (lv' := [(0, .ref (gB G + a)), (1, .int u1), (2, .int u2), (3, .int u3), (4, .int q3.1)]) rfl ?_
  refine x_iload 4 dX7_isFit_12 rfl ?_
  refine x_iconst 3 dX7_isFit_14 (by decide) ?_
  refine x_icmp_eq 46 dX7_isFit_15 rfl (fun c5 => ?_) (fun c5 => ?_)
  · rw [if_pos c5] at hf
    refine x_iconst 0 dX7_isFit_46 (by decide) ?_
    exact y_zret rfl (by decide) rfl rfl hf dX7_isFit_47
  · rw [if_neg c5] at hf
    refine x_aload_n 0 dX7_isFit_18 rfl ?_
    refine x_iload_n 2 dX7_isFit_19 rfl ?_
    refine x_iload_n 3 dX7_isFit_20 rfl ?_
    obtain ⟨q6, h7, hf⟩ := bnd hf
    refine x_callVi (rest := []) [.int u2, .int u3] (tX7_allNeeds a u2 u3 q3.2 h7) wY_X7_allNeeds wI_X7_allNeeds wS_X7_allNeeds wL_X7_78 (grd_p h7) (by decide) rfl rfl (Nat.le_of_ble_eq_true rfl) ⟨Nat.le_of_ble_eq_true rfl, Nat.le_of_ble_eq_true rfl⟩ ⟨Nat.le_refl _, Nat.le_refl _⟩ dX7_isFit_21 ?_
    refine x_iload_n 1 dX7_isFit_24 rfl ?_
    refine x_iload 4 dX7_isFit_25 rfl ?_
    obtain ⟨q8, h9, hf⟩ := bnd hf
    refine x_callSi (rest := [.int q6.1]) [.int u1, .int q3.1] (tX7_needs u1 q3.1 q6.2 h9) wY_X7_needs wT_X7_needs wL_X7_72 rfl (Nat.le_of_ble_eq_true rfl) ⟨Nat.le_of_ble_eq_true rfl, Nat.le_of_ble_eq_true rfl⟩ ⟨Nat.le_refl _, Nat.le_refl _⟩ dX7_isFit_27 ?_
    refine x_iadd dX7_isFit_30 ?_
    refine x_aload_n 0 dX7_isFit_31 rfl ?_
    obtain ⟨x10, h11, hf⟩ := bnd hf
    refine x_getR wF_X7_19 (by decide) (by decide) rfl h11 dX7_isFit_32 ?_
    refine x_iconst 2 dX7_isFit_35 (by decide) ?_
    refine x_iload_n 2 dX7_isFit_36 rfl ?_
    refine x_iadd dX7_isFit_37 ?_
    obtain ⟨x12, h13, hf⟩ := bnd hf
    refine x_iald h13 dX7_isFit_38 ?_
    refine x_icmp_gt 46 dX7_isFit_39 rfl (fun c14 => ?_) (fun c14 => ?_)
    · rw [if_pos c14] at hf
      refine x_iconst 0 dX7_isFit_46 (by decide) ?_
      exact y_zret rfl (by decide) rfl rfl hf dX7_isFit_47
    · rw [if_neg c14] at hf
      refine x_iconst 1 dX7_isFit_42 (by decide) ?_
      refine x_goto 47 dX7_isFit_43 rfl ?_
      exact y_zret rfl (by decide) rfl rfl hf dX7_isFit_47
abbrev LX7_lays (G : Gm) (p : Program) (l : Launch) (e : Env) (s : State) (m : MethodId) (args : Array Value) (below : List Frame) (meth : Method) (c : Code) (r : Mu) (pc : Nat) (lv : List (Nat × Value)) (st : List Value) (μ : Mu) : Prop := Lt G p l e { frames := 1, cells := 0, slots := 0, locals := 40 * (1) } s m args below meth c cX7_lays 4 RX7 none "lays" (MQ below (Qm G none r 0) args s 0 0 (fA G)) 0 0 pc lv st μ
def fX7_lays_14 (v0 : Nat) (v1 : Int32) (v2 : Int32) (s0 : Int32) (μ : Mu) : Option (Mu) := (gR 7 v0 4 μ).bind fun x4 =>
    (bI 8 x4 (7 + v1) v2 μ).bind fun m6 =>
    (gR 7 v0 4 m6).bind fun x8 =>
    (bI 8 x8 (14 + v1) s0 m6).bind fun m10 =>
    some m10
set_option maxRecDepth 20000 in
theorem tX7_lays_14 {G : Gm} {p : Program} {l : Launch} {e : Env} {s : State} {m : MethodId} {args : Array Value} {below : List Frame} {meth : Method} {c : Code} {r : Mu} (v0 : Nat) (v1 : Int32) (v2 : Int32) (s0 : Int32) (μ : Mu) (hf : fX7_lays_14 v0 v1 v2 s0 μ = some r) : LX7_lays G p l e s m args below meth c r 14 [(0, .ref (gB G + v0)), (1, .int v1), (2, .int v2)] [.int s0] μ := by
  rw [fX7_lays_14] at hf
  refine x_istore_n [1, 2, 3, 0] dX7_lays_14 (by decide) (lv' := [(0, .ref (gB G + v0)), (1, .int v1), (2, .int v2), (3, .int s0)]) rfl ?_
  refine x_aload_n 0 dX7_lays_15 rfl ?_
  obtain ⟨x4, h5, hf⟩ := bnd hf
  refine x_getR wF_X7_19 (by decide) (by decide) rfl h5 dX7_lays_16 ?_
  refine x_bipush 7 dX7_lays_19 (by decide) ?_
  refine x_iload_n 1 dX7_lays_21 rfl ?_
  refine x_iadd dX7_lays_22 ?_
  refine x_iload_n 2 dX7_lays_23 rfl ?_
  obtain ⟨m6, h7, hf⟩ := bnd hf
  refine x_iast h7 dX7_lays_24 ?_
  refine x_aload_n 0 dX7_lays_25 rfl ?_
  obtain ⟨x8, h9, hf⟩ := bnd hf
  refine x_getR wF_X7_19 (by decide) (by decide) rfl h9 dX7_lays_26 ?_
  refine x_bipush 14 dX7_lays_29 (by decide) ?_
  refine x_iload_n 1 dX7_lays_31 rfl ?_
  refine x_iadd dX7_lays_32 ?_
  refine x_iload_n 3 dX7_lays_33 rfl ?_
  obtain ⟨m10, h11, hf⟩ := bnd hf
  refine x_iast h11 dX7_lays_34 ?_
  exact y_vret rfl rfl rfl hf dX7_lays_35
def fX7_lays (a : Nat) (u1 : Int32) (u2 : Int32) (μ : Mu) : Option (Mu) := grd (isO 7 a μ) ((if u2 = (-1) then
    fX7_lays_14  a u1 u2 0 μ
    else
    (fX7_manyIn a u2 μ).bind fun q2 =>
    fX7_lays_14  a u1 u2 q2.1 q2.2))
set_option maxRecDepth 20000 in
theorem tX7_lays {G : Gm} {l : Launch} {r : Mu} (a : Nat) (u1 : Int32) (u2 : Int32) (μ : Mu) (hf : fX7_lays a u1 u2 μ = some r) : Mt G l yX7_lays cX7_lays 4 none (1) 0 0 [.ref (gB G + a), .int u1, .int u2] μ none r := by
  rw [fX7_lays] at hf
  have hf := grd_v hf
  refine Mt.of (by decide) (Nat.le_of_ble_eq_true rfl) (fun p e s m args below meth c => ?_)
  show LX7_lays G p l e s m args below meth c r 0 [(0, .ref (gB G + a)), (1, .int u1), (2, .int u2)] [] μ
  refine x_iload_n 2 dX7_lays_0 rfl ?_
  refine x_iconst (-1) dX7_lays_1 (by decide) ?_
  refine x_icmp_ne 9 dX7_lays_2 rfl (fun c1 => ?_) (fun c1 => ?_)
  · rw [if_neg c1] at hf
    refine x_aload_n 0 dX7_lays_9 rfl ?_
    refine x_iload_n 2 dX7_lays_10 rfl ?_
    obtain ⟨q2, h3, hf⟩ := bnd hf
    refine x_callVi (rest := []) [.int u2] (tX7_manyIn a u2 μ h3) wY_X7_manyIn wI_X7_manyIn wS_X7_manyIn wL_X7_60 (grd_p h3) (by decide) rfl rfl (Nat.le_of_ble_eq_true rfl) ⟨Nat.le_of_ble_eq_true rfl, Nat.le_of_ble_eq_true rfl⟩ ⟨Nat.le_refl _, Nat.le_refl _⟩ dX7_lays_11 ?_
    exact tX7_lays_14  a u1 u2 q2.1 q2.2 hf
  · rw [if_pos c1] at hf
    refine x_iconst 0 dX7_lays_5 (by decide) ?_
    refine x_goto 14 dX7_lays_6 rfl ?_
    exact tX7_lays_14  a u1 u2 0 μ hf
abbrev LX7_takes (G : Gm) (p : Program) (l : Launch) (e : Env) (s : State) (m : MethodId) (args : Array Value) (below : List Frame) (meth : Method) (c : Code) (r : Int32 × Mu) (pc : Nat) (lv : List (Nat × Value)) (st : List Value) (μ : Mu) : Prop := Lt G p l e { frames := 0, cells := 0, slots := 0, locals := 40 * (0) } s m args below meth c cX7_takes 6 RX7 (some .int) "takes" (MQ below (Qm G (some (.int r.1)) r.2 0) args s 0 0 (fA G)) 0 0 pc lv st μ
def fX7_takes_112 (v0 : Nat) (v1 : Int32) (v3 : Int32) (μ : Mu) : Option (Int32 × Mu) := (gR 7 v0 4 μ).bind fun x6 =>
    (bI 8 x6 (7 + v1) (-1) μ).bind fun m8 =>
    (gR 7 v0 4 m8).bind fun x10 =>
    (bI 8 x10 (14 + v1) 0 m8).bind fun m12 =>
    some (v3, m12)
set_option maxRecDepth 20000 in
theorem tX7_takes_112 {G : Gm} {p : Program} {l : Launch} {e : Env} {s : State} {m : MethodId} {args : Array Value} {below : List Frame} {meth : Method} {c : Code} {r : Int32 × Mu} (v0 : Nat) (v1 : Int32) (v3 : Int32) (μ : Mu) (hf : fX7_takes_112 v0 v1 v3 μ = some r) : LX7_takes G p l e s m args below meth c r 112 [(0, .ref (gB G + v0)), (1, .int v1), (3, .int v3)] [] μ := by
  rw [fX7_takes_112] at hf
  refine x_aload_n 0 dX7_takes_112 rfl ?_
  obtain ⟨x6, h7, hf⟩ := bnd hf
  refine x_getR wF_X7_19 (by decide) (by decide) rfl h7 dX7_takes_113 ?_
  refine x_bipush 7 dX7_takes_116 (by decide) ?_
  refine x_iload_n 1 dX7_takes_118 rfl ?_
  refine x_iadd dX7_takes_119 ?_
  refine x_iconst (-1) dX7_takes_120 (by decide) ?_
  obtain ⟨m8, h9, hf⟩ := bnd hf
  refine x_iast h9 dX7_takes_121 ?_
  refine x_aload_n 0 dX7_takes_122 rfl ?_
  obtain ⟨x10, h11, hf⟩ := bnd hf
  refine x_getR wF_X7_19 (by decide) (by decide) rfl h11 dX7_takes_123 ?_
  refine x_bipush 14 dX7_takes_126 (by decide) ?_
  refine x_iload_n 1 dX7_takes_128 rfl ?_
  refine x_iadd dX7_takes_129 ?_
  refine x_iconst 0 dX7_takes_130 (by decide) ?_
  obtain ⟨m12, h13, hf⟩ := bnd hf
  refine x_iast h13 dX7_takes_131 ?_
  refine x_iload_n 2 dX7_takes_132 rfl ?_
  exact y_iret rfl rfl rfl hf dX7_takes_133
def fX7_takes_91 (k15 : Nat → Int32 → Int32 → Int32 → Int32 → Mu → Option (Int32 × Mu)) (v0 : Nat) (v1 : Int32) (v2 : Int32) (v3 : Int32) (v4 : Int32) (v5 : Int32) (s0 : Nat) (s1 : Int32) (s2 : Int32) (s3 : Int32) (μ : Mu) : Option (Int32 × Mu) := (bI 8 s0 s1 (s2 - s3) μ).bind fun m25 =>
    (if v5 = 0 then
    k15 v0 v1 v2 (v3 + 0) (v4 + 1) m25
    else
    k15 v0 v1 v2 (v3 + 1) (v4 + 1) m25)
set_option maxRecDepth 20000 in
theorem tX7_takes_91 {G : Gm} {p : Program} {l : Launch} {e : Env} {s : State} {m : MethodId} {args : Array Value} {below : List Frame} {meth : Method} {c : Code} {r : Int32 × Mu} {k15 : Nat → Int32 → Int32 → Int32 → Int32 → Mu → Option (Int32 × Mu)} (hk15 : ∀ (v0 : Nat) (v1 : Int32) (v2 : Int32) (v3 : Int32) (v4 : Int32) (μ : Mu), k15 v0 v1 v2 v3 v4 μ = some r → LX7_takes G p l e s m args below meth c r 15 [(0, .ref (gB G + v0)), (1, .int v1), (2, .int v2), (3, .int v3), (4, .int v4)] [] μ) (v0 : Nat) (v1 : Int32) (v2 : Int32) (v3 : Int32) (v4 : Int32) (v5 : Int32) (s0 : Nat) (s1 : Int32) (s2 : Int32) (s3 : Int32) (μ : Mu) (hf : fX7_takes_91 k15 v0 v1 v2 v3 v4 v5 s0 s1 s2 s3 μ = some r) : LX7_takes G p l e s m args below meth c r 91 [(0, .ref (gB G + v0)), (1, .int v1), (2, .int v2), (3, .int v3), (4, .int v4), (5, .int v5)] [.int s3, .int s2, .int s1, .ref (gB G + s0)] μ := by
  rw [fX7_takes_91] at hf
  refine x_isub dX7_takes_91 ?_
  obtain ⟨m25, h26, hf⟩ := bnd hf
  refine x_iast h26 dX7_takes_92 ?_
  refine x_iload_n 3 dX7_takes_93 rfl ?_
  refine x_iload 5 dX7_takes_94 rfl ?_
  refine x_if_eq 103 dX7_takes_96 rfl (fun c27 => ?_) (fun c27 => ?_)
  · rw [if_pos c27] at hf
    refine x_iconst 0 dX7_takes_103 (by decide) ?_
    refine x_iadd dX7_takes_104 ?_
    refine x_istore_n [1, 2, 3, 0, 4, 5] dX7_takes_105 (by decide) (lv' := [(0, .ref (gB G + v0)), (1, .int v1), (2, .int v2), (3, .int (v3 + 0)), (4, .int v4), (5, .int v5)]) rfl ?_
    refine x_iinc 4 (v4 + 1) [1, 2, 3, 4, 0, 5] dX7_takes_106 rfl rfl (by decide) (lv' := [(0, .ref (gB G + v0)), (1, .int v1), (2, .int v2), (3, .int (v3 + 0)), (4, .int (v4 + 1)), (5, .int v5)]) rfl ?_
    refine x_goto 15 dX7_takes_109 rfl ?_
    refine x_sub [0, 1, 2, 3, 4] (lv' := [(0, .ref (gB G + v0)), (1, .int v1), (2, .int v2), (3, .int (v3 + 0)), (4, .int (v4 + 1))]) rfl ?_
    exact hk15 v0 v1 v2 (v3 + 0) (v4 + 1) m25 hf
  · rw [if_neg c27] at hf
    refine x_iconst 1 dX7_takes_99 (by decide) ?_
    refine x_goto 104 dX7_takes_100 rfl ?_
    refine x_iadd dX7_takes_104 ?_
    refine x_istore_n [1, 2, 3, 0, 4, 5] dX7_takes_105 (by decide) (lv' := [(0, .ref (gB G + v0)), (1, .int v1), (2, .int v2), (3, .int (v3 + 1)), (4, .int v4), (5, .int v5)]) rfl ?_
    refine x_iinc 4 (v4 + 1) [1, 2, 3, 4, 0, 5] dX7_takes_106 rfl rfl (by decide) (lv' := [(0, .ref (gB G + v0)), (1, .int v1), (2, .int v2), (3, .int (v3 + 1)), (4, .int (v4 + 1)), (5, .int v5)]) rfl ?_
    refine x_goto 15 dX7_takes_109 rfl ?_
    refine x_sub [0, 1, 2, 3, 4] (lv' := [(0, .ref (gB G + v0)), (1, .int v1), (2, .int v2), (3, .int (v3 + 1)), (4, .int (v4 + 1))]) rfl ?_
    exact hk15 v0 v1 v2 (v3 + 1) (v4 + 1) m25 hf
def fX7_takes_68 (k15 : Nat → Int32 → Int32 → Int32 → Int32 → Mu → Option (Int32 × Mu)) (v0 : Nat) (v1 : Int32) (v2 : Int32) (v3 : Int32) (v4 : Int32) (s0 : Int32) (μ : Mu) : Option (Int32 × Mu) := (gR 7 v0 4 μ).bind fun x20 =>
    (aI 8 x20 (14 + v4) μ).bind fun x22 =>
    (if s0 = 0 then
    fX7_takes_91 k15 v0 v1 v2 v3 v4 s0 x20 (14 + v4) x22 0 μ
    else
    fX7_takes_91 k15 v0 v1 v2 v3 v4 s0 x20 (14 + v4) x22 1 μ)
set_option maxRecDepth 20000 in
theorem tX7_takes_68 {G : Gm} {p : Program} {l : Launch} {e : Env} {s : State} {m : MethodId} {args : Array Value} {below : List Frame} {meth : Method} {c : Code} {r : Int32 × Mu} {k15 : Nat → Int32 → Int32 → Int32 → Int32 → Mu → Option (Int32 × Mu)} (hk15 : ∀ (v0 : Nat) (v1 : Int32) (v2 : Int32) (v3 : Int32) (v4 : Int32) (μ : Mu), k15 v0 v1 v2 v3 v4 μ = some r → LX7_takes G p l e s m args below meth c r 15 [(0, .ref (gB G + v0)), (1, .int v1), (2, .int v2), (3, .int v3), (4, .int v4)] [] μ) (v0 : Nat) (v1 : Int32) (v2 : Int32) (v3 : Int32) (v4 : Int32) (s0 : Int32) (μ : Mu) (hf : fX7_takes_68 k15 v0 v1 v2 v3 v4 s0 μ = some r) : LX7_takes G p l e s m args below meth c r 68 [(0, .ref (gB G + v0)), (1, .int v1), (2, .int v2), (3, .int v3), (4, .int v4)] [.int s0] μ := by
  rw [fX7_takes_68] at hf
  refine x_istore [1, 2, 3, 4, 5, 0] dX7_takes_68 (by decide) (lv' := [(0, .ref (gB G + v0)), (1, .int v1), (2, .int v2), (3, .int v3), (4, .int v4), (5, .int s0)]) rfl ?_
  refine x_aload_n 0 dX7_takes_70 rfl ?_
  obtain ⟨x20, h21, hf⟩ := bnd hf
  refine x_getR wF_X7_19 (by decide) (by decide) rfl h21 dX7_takes_71 ?_
  refine x_bipush 14 dX7_takes_74 (by decide) ?_
  refine x_iload 4 dX7_takes_76 rfl ?_
  refine x_iadd dX7_takes_78 ?_
  refine x_dup2 dX7_takes_79 rfl rfl ?_
  obtain ⟨x22, h23, hf⟩ := bnd hf
  refine x_iald h23 dX7_takes_80 ?_
  refine x_iload 5 dX7_takes_81 rfl ?_
  refine x_if_eq 90 dX7_takes_83 rfl (fun c24 => ?_) (fun c24 => ?_)
  · rw [if_pos c24] at hf
    refine x_iconst 0 dX7_takes_90 (by decide) ?_
    exact tX7_takes_91 hk15 v0 v1 v2 v3 v4 s0 x20 (14 + v4) x22 0 μ hf
  · rw [if_neg c24] at hf
    refine x_iconst 1 dX7_takes_86 (by decide) ?_
    refine x_goto 91 dX7_takes_87 rfl ?_
    exact tX7_takes_91 hk15 v0 v1 v2 v3 v4 s0 x20 (14 + v4) x22 1 μ hf
def fX7_takes_15 : Nat → Nat → Int32 → Int32 → Int32 → Int32 → Mu → Option (Int32 × Mu)
  | 0, _, _, _, _, _, _ => none
  | n + 1, v0, v1, v2, v3, v4, μ => (if 7 ≤ v4 then
    fX7_takes_112  v0 v1 v3 μ
    else
    (if v2 = (-1) then
    fX7_takes_112  v0 v1 v3 μ
    else
    (gR 7 v0 4 μ).bind fun x15 =>
    (aI 8 x15 (7 + v4) μ).bind fun x17 =>
    (if x17 = v2 then
    (gR 7 v0 4 μ).bind fun x28 =>
    (aI 8 x28 (14 + v4) μ).bind fun x30 =>
    (gR 7 v0 4 μ).bind fun x32 =>
    (aI 8 x32 (14 + v1) μ).bind fun x34 =>
    (if x30 ≤ x34 then
    fX7_takes_68 (fX7_takes_15 n) v0 v1 v2 v3 v4 0 μ
    else
    fX7_takes_68 (fX7_takes_15 n) v0 v1 v2 v3 v4 1 μ)
    else
    fX7_takes_68 (fX7_takes_15 n) v0 v1 v2 v3 v4 0 μ)))
set_option maxRecDepth 20000 in
theorem tX7_takes_15 {G : Gm} {p : Program} {l : Launch} {e : Env} {s : State} {m : MethodId} {args : Array Value} {below : List Frame} {meth : Method} {c : Code} {r : Int32 × Mu} : ∀ (n : Nat) (v0 : Nat) (v1 : Int32) (v2 : Int32) (v3 : Int32) (v4 : Int32) (μ : Mu), fX7_takes_15 n v0 v1 v2 v3 v4 μ = some r → LX7_takes G p l e s m args below meth c r 15 [(0, .ref (gB G + v0)), (1, .int v1), (2, .int v2), (3, .int v3), (4, .int v4)] [] μ := by
  intro n
  induction n with
  | zero =>
    intro v0 v1 v2 v3 v4 μ hf
    simp [fX7_takes_15] at hf
  | succ n ih =>
    intro v0 v1 v2 v3 v4 μ hf
    rw [fX7_takes_15] at hf
    refine x_iload 4 dX7_takes_15 rfl ?_
    refine x_bipush 7 dX7_takes_17 (by decide) ?_
    refine x_icmp_ge 112 dX7_takes_19 rfl (fun c5 => ?_) (fun c5 => ?_)
    · rw [if_pos c5] at hf
      refine x_sub [0, 1, 3] (lv' := [(0, .ref (gB G + v0)), (1, .int v1), (3, .int v3)]) rfl ?_
      exact tX7_takes_112  v0 v1 v3 μ hf
    · rw [if_neg c5] at hf
      refine x_iload_n 2 dX7_takes_22 rfl ?_
      refine x_iconst (-1) dX7_takes_23 (by decide) ?_
      refine x_icmp_eq 112 dX7_takes_24 rfl (fun c14 => ?_) (fun c14 => ?_)
      · rw [if_pos c14] at hf
        refine x_sub [0, 1, 3] (lv' := [(0, .ref (gB G + v0)), (1, .int v1), (3, .int v3)]) rfl ?_
        exact tX7_takes_112  v0 v1 v3 μ hf
      · rw [if_neg c14] at hf
        refine x_aload_n 0 dX7_takes_27 rfl ?_
        obtain ⟨x15, h16, hf⟩ := bnd hf
        refine x_getR wF_X7_19 (by decide) (by decide) rfl h16 dX7_takes_28 ?_
        refine x_bipush 7 dX7_takes_31 (by decide) ?_
        refine x_iload 4 dX7_takes_33 rfl ?_
        refine x_iadd dX7_takes_35 ?_
        obtain ⟨x17, h18, hf⟩ := bnd hf
        refine x_iald h18 dX7_takes_36 ?_
        refine x_iload_n 2 dX7_takes_37 rfl ?_
        refine x_icmp_ne 67 dX7_takes_38 rfl (fun c19 => ?_) (fun c19 => ?_)
        · rw [if_neg c19] at hf
          refine x_iconst 0 dX7_takes_67 (by decide) ?_
          exact tX7_takes_68 ih v0 v1 v2 v3 v4 0 μ hf
        · rw [if_pos c19] at hf
          refine x_aload_n 0 dX7_takes_41 rfl ?_
          obtain ⟨x28, h29, hf⟩ := bnd hf
          refine x_getR wF_X7_19 (by decide) (by decide) rfl h29 dX7_takes_42 ?_
          refine x_bipush 14 dX7_takes_45 (by decide) ?_
          refine x_iload 4 dX7_takes_47 rfl ?_
          refine x_iadd dX7_takes_49 ?_
          obtain ⟨x30, h31, hf⟩ := bnd hf
          refine x_iald h31 dX7_takes_50 ?_
          refine x_aload_n 0 dX7_takes_51 rfl ?_
          obtain ⟨x32, h33, hf⟩ := bnd hf
          refine x_getR wF_X7_19 (by decide) (by decide) rfl h33 dX7_takes_52 ?_
          refine x_bipush 14 dX7_takes_55 (by decide) ?_
          refine x_iload_n 1 dX7_takes_57 rfl ?_
          refine x_iadd dX7_takes_58 ?_
          obtain ⟨x34, h35, hf⟩ := bnd hf
          refine x_iald h35 dX7_takes_59 ?_
          refine x_icmp_le 67 dX7_takes_60 rfl (fun c36 => ?_) (fun c36 => ?_)
          · rw [if_pos c36] at hf
            refine x_iconst 0 dX7_takes_67 (by decide) ?_
            exact tX7_takes_68 ih v0 v1 v2 v3 v4 0 μ hf
          · rw [if_neg c36] at hf
            refine x_iconst 1 dX7_takes_63 (by decide) ?_
            refine x_goto 68 dX7_takes_64 rfl ?_
            exact tX7_takes_68 ih v0 v1 v2 v3 v4 1 μ hf
def fX7_takes (a : Nat) (u1 : Int32) (μ : Mu) : Option (Int32 × Mu) := grd (isO 7 a μ) ((gR 7 a 4 μ).bind fun x1 =>
    (aI 8 x1 (7 + u1) μ).bind fun x3 =>
    fX7_takes_15  FU a u1 x3 0 0 μ)
set_option maxRecDepth 20000 in
theorem tX7_takes {G : Gm} {l : Launch} {r : Int32 × Mu} (a : Nat) (u1 : Int32) (μ : Mu) (hf : fX7_takes a u1 μ = some r) : Mt G l yX7_takes cX7_takes 6 (some .int) (0) 0 0 [.ref (gB G + a), .int u1] μ (some (.int r.1)) r.2 := by
  rw [fX7_takes] at hf
  have hf := grd_v hf
  refine Mt.of (by decide) (Nat.le_of_ble_eq_true rfl) (fun p e s m args below meth c => ?_)
  show LX7_takes G p l e s m args below meth c r 0 [(0, .ref (gB G + a)), (1, .int u1)] [] μ
  refine x_aload_n 0 dX7_takes_0 rfl ?_
  obtain ⟨x1, h2, hf⟩ := bnd hf
  refine x_getR wF_X7_19 (by decide) (by decide) rfl h2 dX7_takes_1 ?_
  refine x_bipush 7 dX7_takes_4 (by decide) ?_
  refine x_iload_n 1 dX7_takes_6 rfl ?_
  refine x_iadd dX7_takes_7 ?_
  obtain ⟨x3, h4, hf⟩ := bnd hf
  refine x_iald h4 dX7_takes_8 ?_
  refine x_istore_n [1, 2, 0] dX7_takes_9 (by decide) (lv' := [(0, .ref (gB G + a)), (1, .int u1), (2, .int x3)]) rfl ?_
  refine x_iconst 0 dX7_takes_10 (by decide) ?_
  refine x_istore_n [1, 2, 3, 0] dX7_takes_11 (by decide) (lv' := [(0, .ref (gB G + a)), (1, .int u1), (2, .int x3), (3, .int 0)]) rfl ?_
  refine x_iconst 0 dX7_takes_12 (by decide) ?_
  refine x_istore [1, 2, 3, 4, 0] dX7_takes_13 (by decide) (lv' := [(0, .ref (gB G + a)), (1, .int u1), (2, .int x3), (3, .int 0), (4, .int 0)]) rfl ?_
  exact tX7_takes_15  FU a u1 x3 0 0 μ hf
abbrev LX7_write (G : Gm) (p : Program) (l : Launch) (e : Env) (s : State) (m : MethodId) (args : Array Value) (below : List Frame) (meth : Method) (c : Code) (r : Int32 × Mu) (pc : Nat) (lv : List (Nat × Value)) (st : List Value) (μ : Mu) : Prop := Lt G p l e { frames := 1, cells := 0, slots := 0, locals := 40 * (1) } s m args below meth c cX7_write 2 RX7 (some .int) "write" (MQ below (Qm G (some (.int r.1)) r.2 0) args s 0 0 (fA G)) 0 0 pc lv st μ
def fX7_write (a : Nat) (u1 : Int32) (μ : Mu) : Option (Int32 × Mu) := grd (isO 7 a μ) ((fX7_in u1 32 126 μ).bind fun q1 =>
    (if q1.1 = 0 then
    some ((-1), q1.2)
    else
    (gI 7 a 1 q1.2).bind fun x4 =>
    (if x4 = 200 then
    some ((-3), q1.2)
    else
    (gR 7 a 0 q1.2).bind fun x7 =>
    (gI 7 a 1 q1.2).bind fun x9 =>
    (bI 8 x7 x9 u1 q1.2).bind fun m11 =>
    (gI 7 a 1 m11).bind fun x13 =>
    (pI 7 a 1 (x13 + 1) m11).bind fun m15 =>
    (gI 7 a 1 m15).bind fun x17 =>
    some (x17, m15))))
set_option maxRecDepth 20000 in
theorem tX7_write {G : Gm} {l : Launch} {r : Int32 × Mu} (a : Nat) (u1 : Int32) (μ : Mu) (hf : fX7_write a u1 μ = some r) : Mt G l yX7_write cX7_write 2 (some .int) (1) 0 0 [.ref (gB G + a), .int u1] μ (some (.int r.1)) r.2 := by
  rw [fX7_write] at hf
  have hf := grd_v hf
  refine Mt.of (by decide) (Nat.le_of_ble_eq_true rfl) (fun p e s m args below meth c => ?_)
  show LX7_write G p l e s m args below meth c r 0 [(0, .ref (gB G + a)), (1, .int u1)] [] μ
  refine x_iload_n 1 dX7_write_0 rfl ?_
  refine x_bipush 32 dX7_write_1 (by decide) ?_
  refine x_bipush 126 dX7_write_3 (by decide) ?_
  obtain ⟨q1, h2, hf⟩ := bnd hf
  refine x_callSi (rest := []) [.int u1, .int 32, .int 126] (tX7_in u1 32 126 μ h2) wY_X7_in wT_X7_in wL_X7_56 rfl (Nat.le_of_ble_eq_true rfl) ⟨Nat.le_of_ble_eq_true rfl, Nat.le_of_ble_eq_true rfl⟩ ⟨Nat.le_refl _, Nat.le_refl _⟩ dX7_write_5 ?_
  refine x_if_ne 13 dX7_write_8 rfl (fun c3 => ?_) (fun c3 => ?_)
  · rw [if_neg c3] at hf
    refine x_aload_n 0 dX7_write_13 rfl ?_
    obtain ⟨x4, h5, hf⟩ := bnd hf
    refine x_getI wF_X7_81 (by decide) (by decide) rfl h5 dX7_write_14 ?_
    refine x_sipush 200 dX7_write_17 (by decide) ?_
    refine x_icmp_ne 26 dX7_write_20 rfl (fun c6 => ?_) (fun c6 => ?_)
    · rw [if_neg c6] at hf
      refine x_aload_n 0 dX7_write_26 rfl ?_
      obtain ⟨x7, h8, hf⟩ := bnd hf
      refine x_getR wF_X7_7 (by decide) (by decide) rfl h8 dX7_write_27 ?_
      refine x_aload_n 0 dX7_write_30 rfl ?_
      obtain ⟨x9, h10, hf⟩ := bnd hf
      refine x_getI wF_X7_81 (by decide) (by decide) rfl h10 dX7_write_31 ?_
      refine x_iload_n 1 dX7_write_34 rfl ?_
      obtain ⟨m11, h12, hf⟩ := bnd hf
      refine x_iast h12 dX7_write_35 ?_
      refine x_aload_n 0 dX7_write_36 rfl ?_
      refine x_dup dX7_write_37 rfl ?_
      obtain ⟨x13, h14, hf⟩ := bnd hf
      refine x_getI wF_X7_81 (by decide) (by decide) rfl h14 dX7_write_38 ?_
      refine x_iconst 1 dX7_write_41 (by decide) ?_
      refine x_iadd dX7_write_42 ?_
      obtain ⟨m15, h16, hf⟩ := bnd hf
      refine x_putI wF_X7_81 (by decide) (by decide) rfl rfl h16 dX7_write_43 ?_
      refine x_aload_n 0 dX7_write_46 rfl ?_
      obtain ⟨x17, h18, hf⟩ := bnd hf
      refine x_getI wF_X7_81 (by decide) (by decide) rfl h18 dX7_write_47 ?_
      exact y_iret rfl rfl rfl hf dX7_write_50
    · rw [if_pos c6] at hf
      refine x_bipush (-3) dX7_write_23 (by decide) ?_
      exact y_iret rfl rfl rfl hf dX7_write_25
  · rw [if_pos c3] at hf
    refine x_iconst (-1) dX7_write_11 (by decide) ?_
    exact y_iret rfl rfl rfl hf dX7_write_12
abbrev LX7_wipe (G : Gm) (p : Program) (l : Launch) (e : Env) (s : State) (m : MethodId) (args : Array Value) (below : List Frame) (meth : Method) (c : Code) (r : Int32 × Mu) (pc : Nat) (lv : List (Nat × Value)) (st : List Value) (μ : Mu) : Prop := Lt G p l e { frames := 0, cells := 0, slots := 0, locals := 40 * (0) } s m args below meth c cX7_wipe 2 RX7 (some .int) "wipe" (MQ below (Qm G (some (.int r.1)) r.2 0) args s 0 0 (fA G)) 0 0 pc lv st μ
def fX7_wipe (a : Nat) (μ : Mu) : Option (Int32 × Mu) := grd (isO 7 a μ) ((gI 7 a 1 μ).bind fun x1 =>
    (pI 7 a 1 0 μ).bind fun m3 =>
    some (x1, m3))
set_option maxRecDepth 20000 in
theorem tX7_wipe {G : Gm} {l : Launch} {r : Int32 × Mu} (a : Nat) (μ : Mu) (hf : fX7_wipe a μ = some r) : Mt G l yX7_wipe cX7_wipe 2 (some .int) (0) 0 0 [.ref (gB G + a)] μ (some (.int r.1)) r.2 := by
  rw [fX7_wipe] at hf
  have hf := grd_v hf
  refine Mt.of (by decide) (Nat.le_of_ble_eq_true rfl) (fun p e s m args below meth c => ?_)
  show LX7_wipe G p l e s m args below meth c r 0 [(0, .ref (gB G + a))] [] μ
  refine x_aload_n 0 dX7_wipe_0 rfl ?_
  obtain ⟨x1, h2, hf⟩ := bnd hf
  refine x_getI wF_X7_81 (by decide) (by decide) rfl h2 dX7_wipe_1 ?_
  refine x_istore_n [1, 0] dX7_wipe_4 (by decide) (lv' := [(0, .ref (gB G + a)), (1, .int x1)]) rfl ?_
  refine x_aload_n 0 dX7_wipe_5 rfl ?_
  refine x_iconst 0 dX7_wipe_6 (by decide) ?_
  obtain ⟨m3, h4, hf⟩ := bnd hf
  refine x_putI wF_X7_81 (by decide) (by decide) rfl rfl h4 dX7_wipe_7 ?_
  refine x_iload_n 1 dX7_wipe_10 rfl ?_
  exact y_iret rfl rfl rfl hf dX7_wipe_11
abbrev LX7_letterAt (G : Gm) (p : Program) (l : Launch) (e : Env) (s : State) (m : MethodId) (args : Array Value) (below : List Frame) (meth : Method) (c : Code) (r : Int32 × Mu) (pc : Nat) (lv : List (Nat × Value)) (st : List Value) (μ : Mu) : Prop := Lt G p l e { frames := 0, cells := 0, slots := 0, locals := 40 * (0) } s m args below meth c cX7_letterAt 2 RX7 (some .int) "letterAt" (MQ below (Qm G (some (.int r.1)) r.2 0) args s 0 0 (fA G)) 0 0 pc lv st μ
def fX7_letterAt (a : Nat) (u1 : Int32) (μ : Mu) : Option (Int32 × Mu) := grd (isO 7 a μ) ((gI 7 a 1 μ).bind fun x1 =>
    (if x1 ≤ u1 then
    some ((-1), μ)
    else
    (gR 7 a 0 μ).bind fun x4 =>
    (aI 8 x4 u1 μ).bind fun x6 =>
    some (x6, μ)))
set_option maxRecDepth 20000 in
theorem tX7_letterAt {G : Gm} {l : Launch} {r : Int32 × Mu} (a : Nat) (u1 : Int32) (μ : Mu) (hf : fX7_letterAt a u1 μ = some r) : Mt G l yX7_letterAt cX7_letterAt 2 (some .int) (0) 0 0 [.ref (gB G + a), .int u1] μ (some (.int r.1)) r.2 := by
  rw [fX7_letterAt] at hf
  have hf := grd_v hf
  refine Mt.of (by decide) (Nat.le_of_ble_eq_true rfl) (fun p e s m args below meth c => ?_)
  show LX7_letterAt G p l e s m args below meth c r 0 [(0, .ref (gB G + a)), (1, .int u1)] [] μ
  refine x_iload_n 1 dX7_letterAt_0 rfl ?_
  refine x_aload_n 0 dX7_letterAt_1 rfl ?_
  obtain ⟨x1, h2, hf⟩ := bnd hf
  refine x_getI wF_X7_81 (by decide) (by decide) rfl h2 dX7_letterAt_2 ?_
  refine x_icmp_ge 17 dX7_letterAt_5 rfl (fun c3 => ?_) (fun c3 => ?_)
  · rw [if_pos c3] at hf
    refine x_iconst (-1) dX7_letterAt_17 (by decide) ?_
    exact y_iret rfl rfl rfl hf dX7_letterAt_18
  · rw [if_neg c3] at hf
    refine x_aload_n 0 dX7_letterAt_8 rfl ?_
    obtain ⟨x4, h5, hf⟩ := bnd hf
    refine x_getR wF_X7_7 (by decide) (by decide) rfl h5 dX7_letterAt_9 ?_
    refine x_iload_n 1 dX7_letterAt_12 rfl ?_
    obtain ⟨x6, h7, hf⟩ := bnd hf
    refine x_iald h7 dX7_letterAt_13 ?_
    refine x_goto 18 dX7_letterAt_14 rfl ?_
    exact y_iret rfl rfl rfl hf dX7_letterAt_18
abbrev LX7_isFigure (G : Gm) (p : Program) (l : Launch) (e : Env) (s : State) (m : MethodId) (args : Array Value) (below : List Frame) (meth : Method) (c : Code) (r : Int32 × Mu) (pc : Nat) (lv : List (Nat × Value)) (st : List Value) (μ : Mu) : Prop := Lt G p l e { frames := 1, cells := 0, slots := 0, locals := 40 * (1) } s m args below meth c cX7_isFigure 1 RX7 (some .boolean) "isFigure" (MQ below (Qm G (some (.int r.1)) r.2 0) args s 0 0 (fA G)) 0 0 pc lv st μ
def fX7_isFigure (u1 : Int32) (μ : Mu) : Option (Int32 × Mu) := (fX7_in u1 48 57 μ).bind fun q1 =>
    grd (q1.1 = 0 ∨ q1.1 = 1) (some (q1.1, q1.2))
set_option maxRecDepth 20000 in
theorem tX7_isFigure {G : Gm} {l : Launch} {r : Int32 × Mu} (u1 : Int32) (μ : Mu) (hf : fX7_isFigure u1 μ = some r) : Mt G l yX7_isFigure cX7_isFigure 1 (some .boolean) (1) 0 0 [.int u1] μ (some (.int r.1)) r.2 := by
  rw [fX7_isFigure] at hf
  refine Mt.of (by decide) (Nat.le_of_ble_eq_true rfl) (fun p e s m args below meth c => ?_)
  show LX7_isFigure G p l e s m args below meth c r 0 [(0, .int u1)] [] μ
  refine x_iload_n 0 dX7_isFigure_0 rfl ?_
  refine x_bipush 48 dX7_isFigure_1 (by decide) ?_
  refine x_bipush 57 dX7_isFigure_3 (by decide) ?_
  obtain ⟨q1, h2, hf⟩ := bnd hf
  refine x_callSi (rest := []) [.int u1, .int 48, .int 57] (tX7_in u1 48 57 μ h2) wY_X7_in wT_X7_in wL_X7_56 rfl (Nat.le_of_ble_eq_true rfl) ⟨Nat.le_of_ble_eq_true rfl, Nat.le_of_ble_eq_true rfl⟩ ⟨Nat.le_refl _, Nat.le_refl _⟩ dX7_isFigure_5 ?_
  exact y_zret rfl (grd_p hf) rfl rfl (grd_v hf) dX7_isFigure_8
abbrev LX7_number (G : Gm) (p : Program) (l : Launch) (e : Env) (s : State) (m : MethodId) (args : Array Value) (below : List Frame) (meth : Method) (c : Code) (r : Int32 × Mu) (pc : Nat) (lv : List (Nat × Value)) (st : List Value) (μ : Mu) : Prop := Lt G p l e { frames := 2, cells := 0, slots := 0, locals := 40 * (2) } s m args below meth c cX7_number 6 RX7 (some .int) "number" (MQ below (Qm G (some (.int r.1)) r.2 0) args s 0 0 (fA G)) 0 0 pc lv st μ
def fX7_number_109 (v0 : Nat) (v4 : Int32) (s0 : Int32) (μ : Mu) : Option (Int32 × Mu) := (gI 7 v0 11 μ).bind fun x26 =>
    (pI 7 v0 11 (x26 + 1) μ).bind fun m28 =>
    (if s0 = 0 then
    some ((-1), m28)
    else
    some (v4, m28))
set_option maxRecDepth 20000 in
theorem tX7_number_109 {G : Gm} {p : Program} {l : Launch} {e : Env} {s : State} {m : MethodId} {args : Array Value} {below : List Frame} {meth : Method} {c : Code} {r : Int32 × Mu} (v0 : Nat) (v4 : Int32) (s0 : Int32) (μ : Mu) (hf : fX7_number_109 v0 v4 s0 μ = some r) : LX7_number G p l e s m args below meth c r 109 [(0, .ref (gB G + v0)), (4, .int v4)] [.int s0] μ := by
  rw [fX7_number_109] at hf
  refine x_istore [1, 2, 0] dX7_number_109 (by decide) (lv' := [(0, .ref (gB G + v0)), (4, .int v4), (5, .int s0)]) rfl ?_
  refine x_aload_n 0 dX7_number_111 rfl ?_
  refine x_dup dX7_number_112 rfl ?_
  obtain ⟨x26, h27, hf⟩ := bnd hf
  refine x_getI wF_X7_85 (by decide) (by decide) rfl h27 dX7_number_113 ?_
  refine x_iconst 1 dX7_number_116 (by decide) ?_
  refine x_iadd dX7_number_117 ?_
  obtain ⟨m28, h29, hf⟩ := bnd hf
  refine x_putI wF_X7_85 (by decide) (by decide) rfl rfl h29 dX7_number_118 ?_
  refine x_iload 2 dX7_number_121 rfl ?_
  refine x_if_eq 131 dX7_number_123 rfl (fun c30 => ?_) (fun c30 => ?_)
  · rw [if_pos c30] at hf
    refine x_iconst (-1) dX7_number_131 (by decide) ?_
    exact y_iret rfl rfl rfl hf dX7_number_132
  · rw [if_neg c30] at hf
    refine x_iload 1 dX7_number_126 rfl ?_
    refine x_goto 132 dX7_number_128 rfl ?_
    exact y_iret rfl rfl rfl hf dX7_number_132
def fX7_number_82 (v0 : Nat) (v1 : Int32) (v2 : Int32) (v3 : Int32) (v4 : Int32) (μ : Mu) : Option (Int32 × Mu) := (fX7_in v4 v1 v2 μ).bind fun q23 =>
    (if q23.1 = 0 then
    fX7_number_109  v0 v4 0 q23.2
    else
    (gI 7 v0 11 q23.2).bind fun x31 =>
    (fX7_letterAt v0 x31 q23.2).bind fun q33 =>
    (if q33.1 = v3 then
    fX7_number_109  v0 v4 1 q33.2
    else
    fX7_number_109  v0 v4 0 q33.2))
set_option maxRecDepth 20000 in
theorem tX7_number_82 {G : Gm} {p : Program} {l : Launch} {e : Env} {s : State} {m : MethodId} {args : Array Value} {below : List Frame} {meth : Method} {c : Code} {r : Int32 × Mu} (v0 : Nat) (v1 : Int32) (v2 : Int32) (v3 : Int32) (v4 : Int32) (μ : Mu) (hf : fX7_number_82 v0 v1 v2 v3 v4 μ = some r) : LX7_number G p l e s m args below meth c r 82 [(0, .ref (gB G + v0)), (1, .int v1), (2, .int v2), (3, .int v3), (4, .int v4)] [] μ := by
  rw [fX7_number_82] at hf
  refine x_iload 4 dX7_number_82 rfl ?_
  refine x_iload_n 1 dX7_number_84 rfl ?_
  refine x_iload_n 2 dX7_number_85 rfl ?_
  obtain ⟨q23, h24, hf⟩ := bnd hf
  refine x_callSi (rest := []) [.int v4, .int v1, .int v2] (tX7_in v4 v1 v2 μ h24) wY_X7_in wT_X7_in wL_X7_56 rfl (Nat.le_of_ble_eq_true rfl) ⟨Nat.le_of_ble_eq_true rfl, Nat.le_of_ble_eq_true rfl⟩ ⟨Nat.le_refl _, Nat.le_refl _⟩ dX7_number_86 ?_
  refine x_if_eq 108 dX7_number_89 rfl (fun c25 => ?_) (fun c25 => ?_)
  · rw [if_pos c25] at hf
    refine x_iconst 0 dX7_number_108 (by decide) ?_
    refine x_sub [0, 4] (lv' := [(0, .ref (gB G + v0)), (4, .int v4)]) rfl ?_
    exact tX7_number_109  v0 v4 0 q23.2 hf
  · rw [if_neg c25] at hf
    refine x_aload_n 0 dX7_number_92 rfl ?_
    refine x_aload_n 0 dX7_number_93 rfl ?_
    obtain ⟨x31, h32, hf⟩ := bnd hf
    refine x_getI wF_X7_85 (by decide) (by decide) rfl h32 dX7_number_94 ?_
    obtain ⟨q33, h34, hf⟩ := bnd hf
    refine x_callVi (rest := []) [.int x31] (tX7_letterAt v0 x31 q23.2 h34) wY_X7_letterAt wI_X7_letterAt wS_X7_letterAt wL_X7_88 (grd_p h34) (by decide) rfl rfl (Nat.le_of_ble_eq_true rfl) ⟨Nat.le_of_ble_eq_true rfl, Nat.le_of_ble_eq_true rfl⟩ ⟨Nat.le_refl _, Nat.le_refl _⟩ dX7_number_97 ?_
    refine x_iload_n 3 dX7_number_100 rfl ?_
    refine x_icmp_ne 108 dX7_number_101 rfl (fun c35 => ?_) (fun c35 => ?_)
    · rw [if_neg c35] at hf
      refine x_iconst 0 dX7_number_108 (by decide) ?_
      refine x_sub [0, 4] (lv' := [(0, .ref (gB G + v0)), (4, .int v4)]) rfl ?_
      exact tX7_number_109  v0 v4 0 q33.2 hf
    · rw [if_pos c35] at hf
      refine x_iconst 1 dX7_number_104 (by decide) ?_
      refine x_goto 109 dX7_number_105 rfl ?_
      refine x_sub [0, 4] (lv' := [(0, .ref (gB G + v0)), (4, .int v4)]) rfl ?_
      exact tX7_number_109  v0 v4 1 q33.2 hf
def fX7_number (a : Nat) (u1 : Int32) (u2 : Int32) (u3 : Int32) (μ : Mu) : Option (Int32 × Mu) := grd (isO 7 a μ) ((gI 7 a 11 μ).bind fun x1 =>
    (fX7_letterAt a x1 μ).bind fun q3 =>
    (fX7_isFigure q3.1 q3.2).bind fun q5 =>
    (if q5.1 = 0 then
    some ((-1), q5.2)
    else
    (gI 7 a 11 q5.2).bind fun x8 =>
    (fX7_letterAt a x8 q5.2).bind fun q10 =>
    (gI 7 a 11 q10.2).bind fun x12 =>
    (pI 7 a 11 (x12 + 1) q10.2).bind fun m14 =>
    (gI 7 a 11 m14).bind fun x16 =>
    (fX7_letterAt a x16 m14).bind fun q18 =>
    (fX7_isFigure q18.1 q18.2).bind fun q20 =>
    (if q20.1 = 0 then
    fX7_number_82  a u1 u2 u3 (q10.1 - 48) q20.2
    else
    (gI 7 a 11 q20.2).bind fun x36 =>
    (fX7_letterAt a x36 q20.2).bind fun q38 =>
    (gI 7 a 11 q38.2).bind fun x40 =>
    (pI 7 a 11 (x40 + 1) q38.2).bind fun m42 =>
    fX7_number_82  a u1 u2 u3 (((10 * (q10.1 - 48)) + q38.1) - 48) m42)))
set_option maxRecDepth 20000 in
theorem tX7_number {G : Gm} {l : Launch} {r : Int32 × Mu} (a : Nat) (u1 : Int32) (u2 : Int32) (u3 : Int32) (μ : Mu) (hf : fX7_number a u1 u2 u3 μ = some r) : Mt G l yX7_number cX7_number 6 (some .int) (2) 0 0 [.ref (gB G + a), .int u1, .int u2, .int u3] μ (some (.int r.1)) r.2 := by
  rw [fX7_number] at hf
  have hf := grd_v hf
  refine Mt.of (by decide) (Nat.le_of_ble_eq_true rfl) (fun p e s m args below meth c => ?_)
  show LX7_number G p l e s m args below meth c r 0 [(0, .ref (gB G + a)), (1, .int u1), (2, .int u2), (3, .int u3)] [] μ
  refine x_aload_n 0 dX7_number_0 rfl ?_
  refine x_aload_n 0 dX7_number_1 rfl ?_
  obtain ⟨x1, h2, hf⟩ := bnd hf
  refine x_getI wF_X7_85 (by decide) (by decide) rfl h2 dX7_number_2 ?_
  obtain ⟨q3, h4, hf⟩ := bnd hf
  refine x_callVi (rest := []) [.int x1] (tX7_letterAt a x1 μ h4) wY_X7_letterAt wI_X7_letterAt wS_X7_letterAt wL_X7_88 (grd_p h4) (by decide) rfl rfl (Nat.le_of_ble_eq_true rfl) ⟨Nat.le_of_ble_eq_true rfl, Nat.le_of_ble_eq_true rfl⟩ ⟨Nat.le_refl _, Nat.le_refl _⟩ dX7_number_5 ?_
  obtain ⟨q5, h6, hf⟩ := bnd hf
  refine x_callSi (rest := []) [.int q3.1] (tX7_isFigure q3.1 q3.2 h6) wY_X7_isFigure wT_X7_isFigure wL_X7_91 rfl (Nat.le_of_ble_eq_true rfl) ⟨Nat.le_of_ble_eq_true rfl, Nat.le_of_ble_eq_true rfl⟩ ⟨Nat.le_refl _, Nat.le_refl _⟩ dX7_number_8 ?_
  refine x_if_ne 16 dX7_number_11 rfl (fun c7 => ?_) (fun c7 => ?_)
  · rw [if_neg c7] at hf
    refine x_aload_n 0 dX7_number_16 rfl ?_
    refine x_aload_n 0 dX7_number_17 rfl ?_
    obtain ⟨x8, h9, hf⟩ := bnd hf
    refine x_getI wF_X7_85 (by decide) (by decide) rfl h9 dX7_number_18 ?_
    obtain ⟨q10, h11, hf⟩ := bnd hf
    refine x_callVi (rest := []) [.int x8] (tX7_letterAt a x8 q5.2 h11) wY_X7_letterAt wI_X7_letterAt wS_X7_letterAt wL_X7_88 (grd_p h11) (by decide) rfl rfl (Nat.le_of_ble_eq_true rfl) ⟨Nat.le_of_ble_eq_true rfl, Nat.le_of_ble_eq_true rfl⟩ ⟨Nat.le_refl _, Nat.le_refl _⟩ dX7_number_21 ?_
    refine x_bipush 48 dX7_number_24 (by decide) ?_
    refine x_isub dX7_number_26 ?_
    refine x_istore [1, 2, 3, 4, 0] dX7_number_27 (by decide) (lv' := [(0, .ref (gB G + a)), (1, .int u1), (2, .int u2), (3, .int u3), (4, .int (q10.1 - 48))]) rfl ?_
    refine x_aload_n 0 dX7_number_29 rfl ?_
    refine x_dup dX7_number_30 rfl ?_
    obtain ⟨x12, h13, hf⟩ := bnd hf
    refine x_getI wF_X7_85 (by decide) (by decide) rfl h13 dX7_number_31 ?_
    refine x_iconst 1 dX7_number_34 (by decide) ?_
    refine x_iadd dX7_number_35 ?_
    obtain ⟨m14, h15, hf⟩ := bnd hf
    refine x_putI wF_X7_85 (by decide) (by decide) rfl rfl h15 dX7_number_36 ?_
    refine x_aload_n 0 dX7_number_39 rfl ?_
    refine x_aload_n 0 dX7_number_40 rfl ?_
    obtain ⟨x16, h17, hf⟩ := bnd hf
    refine x_getI wF_X7_85 (by decide) (by decide) rfl h17 dX7_number_41 ?_
    obtain ⟨q18, h19, hf⟩ := bnd hf
    refine x_callVi (rest := []) [.int x16] (tX7_letterAt a x16 m14 h19) wY_X7_letterAt wI_X7_letterAt wS_X7_letterAt wL_X7_88 (grd_p h19) (by decide) rfl rfl (Nat.le_of_ble_eq_true rfl) ⟨Nat.le_of_ble_eq_true rfl, Nat.le_of_ble_eq_true rfl⟩ ⟨Nat.le_refl _, Nat.le_refl _⟩ dX7_number_44 ?_
    obtain ⟨q20, h21, hf⟩ := bnd hf
    refine x_callSi (rest := []) [.int q18.1] (tX7_isFigure q18.1 q18.2 h21) wY_X7_isFigure wT_X7_isFigure wL_X7_91 rfl (Nat.le_of_ble_eq_true rfl) ⟨Nat.le_of_ble_eq_true rfl, Nat.le_of_ble_eq_true rfl⟩ ⟨Nat.le_refl _, Nat.le_refl _⟩ dX7_number_47 ?_
    refine x_if_eq 82 dX7_number_50 rfl (fun c22 => ?_) (fun c22 => ?_)
    · rw [if_pos c22] at hf
      exact tX7_number_82  a u1 u2 u3 (q10.1 - 48) q20.2 hf
    · rw [if_neg c22] at hf
      refine x_bipush 10 dX7_number_53 (by decide) ?_
      refine x_iload 4 dX7_number_55 rfl ?_
      refine x_imul dX7_number_57 ?_
      refine x_aload_n 0 dX7_number_58 rfl ?_
      refine x_aload_n 0 dX7_number_59 rfl ?_
      obtain ⟨x36, h37, hf⟩ := bnd hf
      refine x_getI wF_X7_85 (by decide) (by decide) rfl h37 dX7_number_60 ?_
      obtain ⟨q38, h39, hf⟩ := bnd hf
      refine x_callVi (rest := [.int (10 * (q10.1 - 48))]) [.int x36] (tX7_letterAt a x36 q20.2 h39) wY_X7_letterAt wI_X7_letterAt wS_X7_letterAt wL_X7_88 (grd_p h39) (by decide) rfl rfl (Nat.le_of_ble_eq_true rfl) ⟨Nat.le_of_ble_eq_true rfl, Nat.le_of_ble_eq_true rfl⟩ ⟨Nat.le_refl _, Nat.le_refl _⟩ dX7_number_63 ?_
      refine x_iadd dX7_number_66 ?_
      refine x_bipush 48 dX7_number_67 (by decide) ?_
      refine x_isub dX7_number_69 ?_
      refine x_istore [1, 2, 3, 4, 0] dX7_number_70 (by decide) (lv' := [(0, .ref (gB G + a)), (1, .int u1), (2, .int u2), (3, .int u3), (4, .int (((10 * (q10.1 - 48)) + q38.1) - 48))]) rfl ?_
      refine x_aload_n 0 dX7_number_72 rfl ?_
      refine x_dup dX7_number_73 rfl ?_
      obtain ⟨x40, h41, hf⟩ := bnd hf
      refine x_getI wF_X7_85 (by decide) (by decide) rfl h41 dX7_number_74 ?_
      refine x_iconst 1 dX7_number_77 (by decide) ?_
      refine x_iadd dX7_number_78 ?_
      obtain ⟨m42, h43, hf⟩ := bnd hf
      refine x_putI wF_X7_85 (by decide) (by decide) rfl rfl h43 dX7_number_79 ?_
      exact tX7_number_82  a u1 u2 u3 (((10 * (q10.1 - 48)) + q38.1) - 48) m42 hf
  · rw [if_pos c7] at hf
    refine x_iconst (-1) dX7_number_14 (by decide) ?_
    exact y_iret rfl rfl rfl hf dX7_number_15
abbrev LX7_holds (G : Gm) (p : Program) (l : Launch) (e : Env) (s : State) (m : MethodId) (args : Array Value) (below : List Frame) (meth : Method) (c : Code) (r : Mu) (pc : Nat) (lv : List (Nat × Value)) (st : List Value) (μ : Mu) : Prop := Lt G p l e { frames := 1, cells := 0, slots := 0, locals := 40 * (1) } s m args below meth c cX7_holds 2 RX7 none "holds" (MQ below (Qm G none r 0) args s 0 0 (fA G)) 0 0 pc lv st μ
def fX7_holds_23 : Nat → Nat → Int32 → Mu → Option (Mu)
  | 0, _, _, _ => none
  | n + 1, v0, v1, μ => (if 21 ≤ v1 then
    some μ
    else
    (gR 7 v0 12 μ).bind fun x3 =>
    (gR 7 v0 4 μ).bind fun x5 =>
    (aI 8 x5 v1 μ).bind fun x7 =>
    (bI 8 x3 v1 x7 μ).bind fun m9 =>
    (gR 7 v0 4 m9).bind fun x11 =>
    (fX7_in v1 7 13 m9).bind fun q13 =>
    (if q13.1 = 0 then
    (bI 8 x11 v1 0 q13.2).bind fun m16 =>
    (fX7_holds_23 n) v0 (v1 + 1) m16
    else
    (bI 8 x11 v1 (-1) q13.2).bind fun m18 =>
    (fX7_holds_23 n) v0 (v1 + 1) m18))
set_option maxRecDepth 20000 in
theorem tX7_holds_23 {G : Gm} {p : Program} {l : Launch} {e : Env} {s : State} {m : MethodId} {args : Array Value} {below : List Frame} {meth : Method} {c : Code} {r : Mu} : ∀ (n : Nat) (v0 : Nat) (v1 : Int32) (μ : Mu), fX7_holds_23 n v0 v1 μ = some r → LX7_holds G p l e s m args below meth c r 23 [(0, .ref (gB G + v0)), (1, .int v1)] [] μ := by
  intro n
  induction n with
  | zero =>
    intro v0 v1 μ hf
    simp [fX7_holds_23] at hf
  | succ n ih =>
    intro v0 v1 μ hf
    rw [fX7_holds_23] at hf
    refine x_iload_n 1 dX7_holds_23 rfl ?_
    refine x_bipush 21 dX7_holds_24 (by decide) ?_
    refine x_icmp_ge 69 dX7_holds_26 rfl (fun c2 => ?_) (fun c2 => ?_)
    · rw [if_pos c2] at hf
      exact y_vret rfl rfl rfl hf dX7_holds_69
    · rw [if_neg c2] at hf
      refine x_aload_n 0 dX7_holds_29 rfl ?_
      obtain ⟨x3, h4, hf⟩ := bnd hf
      refine x_getR wF_X7_31 (by decide) (by decide) rfl h4 dX7_holds_30 ?_
      refine x_iload_n 1 dX7_holds_33 rfl ?_
      refine x_aload_n 0 dX7_holds_34 rfl ?_
      obtain ⟨x5, h6, hf⟩ := bnd hf
      refine x_getR wF_X7_19 (by decide) (by decide) rfl h6 dX7_holds_35 ?_
      refine x_iload_n 1 dX7_holds_38 rfl ?_
      obtain ⟨x7, h8, hf⟩ := bnd hf
      refine x_iald h8 dX7_holds_39 ?_
      obtain ⟨m9, h10, hf⟩ := bnd hf
      refine x_iast h10 dX7_holds_40 ?_
      refine x_aload_n 0 dX7_holds_41 rfl ?_
      obtain ⟨x11, h12, hf⟩ := bnd hf
      refine x_getR wF_X7_19 (by decide) (by decide) rfl h12 dX7_holds_42 ?_
      refine x_iload_n 1 dX7_holds_45 rfl ?_
      refine x_iload_n 1 dX7_holds_46 rfl ?_
      refine x_bipush 7 dX7_holds_47 (by decide) ?_
      refine x_bipush 13 dX7_holds_49 (by decide) ?_
      obtain ⟨q13, h14, hf⟩ := bnd hf
      refine x_callSi (rest := [.int v1, .ref (gB G + x11)]) [.int v1, .int 7, .int 13] (tX7_in v1 7 13 m9 h14) wY_X7_in wT_X7_in wL_X7_56 rfl (Nat.le_of_ble_eq_true rfl) ⟨Nat.le_of_ble_eq_true rfl, Nat.le_of_ble_eq_true rfl⟩ ⟨Nat.le_refl _, Nat.le_refl _⟩ dX7_holds_51 ?_
      refine x_if_eq 61 dX7_holds_54 rfl (fun c15 => ?_) (fun c15 => ?_)
      · rw [if_pos c15] at hf
        refine x_iconst 0 dX7_holds_61 (by decide) ?_
        obtain ⟨m16, h17, hf⟩ := bnd hf
        refine x_iast h17 dX7_holds_62 ?_
        refine x_iinc 1 (v1 + 1) [1, 0] dX7_holds_63 rfl rfl (by decide) (lv' := [(0, .ref (gB G + v0)), (1, .int (v1 + 1))]) rfl ?_
        refine x_goto 23 dX7_holds_66 rfl ?_
        exact ih v0 (v1 + 1) m16 hf
      · rw [if_neg c15] at hf
        refine x_iconst (-1) dX7_holds_57 (by decide) ?_
        refine x_goto 62 dX7_holds_58 rfl ?_
        obtain ⟨m18, h19, hf⟩ := bnd hf
        refine x_iast h19 dX7_holds_62 ?_
        refine x_iinc 1 (v1 + 1) [1, 0] dX7_holds_63 rfl rfl (by decide) (lv' := [(0, .ref (gB G + v0)), (1, .int (v1 + 1))]) rfl ?_
        refine x_goto 23 dX7_holds_66 rfl ?_
        exact ih v0 (v1 + 1) m18 hf
def fX7_holds_2 : Nat → Nat → Int32 → Mu → Option (Mu)
  | 0, _, _, _ => none
  | n + 1, v0, v1, μ => (if 56 ≤ v1 then
    fX7_holds_23  FU v0 0 μ
    else
    (gR 7 v0 3 μ).bind fun x20 =>
    (bI 8 x20 v1 0 μ).bind fun m22 =>
    (fX7_holds_2 n) v0 (v1 + 1) m22)
set_option maxRecDepth 20000 in
theorem tX7_holds_2 {G : Gm} {p : Program} {l : Launch} {e : Env} {s : State} {m : MethodId} {args : Array Value} {below : List Frame} {meth : Method} {c : Code} {r : Mu} : ∀ (n : Nat) (v0 : Nat) (v1 : Int32) (μ : Mu), fX7_holds_2 n v0 v1 μ = some r → LX7_holds G p l e s m args below meth c r 2 [(0, .ref (gB G + v0)), (1, .int v1)] [] μ := by
  intro n
  induction n with
  | zero =>
    intro v0 v1 μ hf
    simp [fX7_holds_2] at hf
  | succ n ih =>
    intro v0 v1 μ hf
    rw [fX7_holds_2] at hf
    refine x_iload_n 1 dX7_holds_2 rfl ?_
    refine x_bipush 56 dX7_holds_3 (by decide) ?_
    refine x_icmp_ge 21 dX7_holds_5 rfl (fun c1 => ?_) (fun c1 => ?_)
    · rw [if_pos c1] at hf
      refine x_iconst 0 dX7_holds_21 (by decide) ?_
      refine x_istore_n [1, 0] dX7_holds_22 (by decide) (lv' := [(0, .ref (gB G + v0)), (1, .int 0)]) rfl ?_
      exact tX7_holds_23  FU v0 0 μ hf
    · rw [if_neg c1] at hf
      refine x_aload_n 0 dX7_holds_8 rfl ?_
      obtain ⟨x20, h21, hf⟩ := bnd hf
      refine x_getR wF_X7_16 (by decide) (by decide) rfl h21 dX7_holds_9 ?_
      refine x_iload_n 1 dX7_holds_12 rfl ?_
      refine x_iconst 0 dX7_holds_13 (by decide) ?_
      obtain ⟨m22, h23, hf⟩ := bnd hf
      refine x_iast h23 dX7_holds_14 ?_
      refine x_iinc 1 (v1 + 1) [1, 0] dX7_holds_15 rfl rfl (by decide) (lv' := [(0, .ref (gB G + v0)), (1, .int (v1 + 1))]) rfl ?_
      refine x_goto 2 dX7_holds_18 rfl ?_
      exact ih v0 (v1 + 1) m22 hf
def fX7_holds (a : Nat) (μ : Mu) : Option (Mu) := grd (isO 7 a μ) (fX7_holds_2  FU a 0 μ)
set_option maxRecDepth 20000 in
theorem tX7_holds {G : Gm} {l : Launch} {r : Mu} (a : Nat) (μ : Mu) (hf : fX7_holds a μ = some r) : Mt G l yX7_holds cX7_holds 2 none (1) 0 0 [.ref (gB G + a)] μ none r := by
  rw [fX7_holds] at hf
  have hf := grd_v hf
  refine Mt.of (by decide) (Nat.le_of_ble_eq_true rfl) (fun p e s m args below meth c => ?_)
  show LX7_holds G p l e s m args below meth c r 0 [(0, .ref (gB G + a))] [] μ
  refine x_iconst 0 dX7_holds_0 (by decide) ?_
  refine x_istore_n [1, 0] dX7_holds_1 (by decide) (lv' := [(0, .ref (gB G + a)), (1, .int 0)]) rfl ?_
  exact tX7_holds_2  FU a 0 μ hf
abbrev LX7_newHour (G : Gm) (p : Program) (l : Launch) (e : Env) (s : State) (m : MethodId) (args : Array Value) (below : List Frame) (meth : Method) (c : Code) (r : Mu) (pc : Nat) (lv : List (Nat × Value)) (st : List Value) (μ : Mu) : Prop := Lt G p l e { frames := 2, cells := 0, slots := 0, locals := 40 * (2) } s m args below meth c cX7_newHour 5 RX7 none "newHour" (MQ below (Qm G none r 0) args s 0 0 (fA G)) 0 0 pc lv st μ
def fX7_newHour (a : Nat) (u1 : Int32) (u2 : Int32) (u3 : Int32) (μ : Mu) : Option (Mu) := grd (isO 7 a μ) ((gR 7 a 3 μ).bind fun x1 =>
    (aI 8 x1 1 μ).bind fun x3 =>
    (gR 7 a 3 μ).bind fun x5 =>
    (bI 8 x5 (2 + x3) u1 μ).bind fun m7 =>
    (gR 7 a 3 m7).bind fun x9 =>
    (bI 8 x9 (9 + x3) u2 m7).bind fun m11 =>
    (gR 7 a 3 m11).bind fun x13 =>
    (aI 8 x13 1 m11).bind fun x15 =>
    (bI 8 x13 1 (x15 + 1) m11).bind fun m17 =>
    (fX7_lays a x3 u3 m17).bind fun q19 =>
    some q19)
set_option maxRecDepth 20000 in
theorem tX7_newHour {G : Gm} {l : Launch} {r : Mu} (a : Nat) (u1 : Int32) (u2 : Int32) (u3 : Int32) (μ : Mu) (hf : fX7_newHour a u1 u2 u3 μ = some r) : Mt G l yX7_newHour cX7_newHour 5 none (2) 0 0 [.ref (gB G + a), .int u1, .int u2, .int u3] μ none r := by
  rw [fX7_newHour] at hf
  have hf := grd_v hf
  refine Mt.of (by decide) (Nat.le_of_ble_eq_true rfl) (fun p e s m args below meth c => ?_)
  show LX7_newHour G p l e s m args below meth c r 0 [(0, .ref (gB G + a)), (1, .int u1), (2, .int u2), (3, .int u3)] [] μ
  refine x_aload_n 0 dX7_newHour_0 rfl ?_
  obtain ⟨x1, h2, hf⟩ := bnd hf
  refine x_getR wF_X7_16 (by decide) (by decide) rfl h2 dX7_newHour_1 ?_
  refine x_iconst 1 dX7_newHour_4 (by decide) ?_
  obtain ⟨x3, h4, hf⟩ := bnd hf
  refine x_iald h4 dX7_newHour_5 ?_
  refine x_istore [1, 2, 3, 4, 0] dX7_newHour_6 (by decide) (lv' := [(0, .ref (gB G + a)), (1, .int u1), (2, .int u2), (3, .int u3), (4, .int x3)]) rfl ?_
  refine x_aload_n 0 dX7_newHour_8 rfl ?_
  obtain ⟨x5, h6, hf⟩ := bnd hf
  refine x_getR wF_X7_16 (by decide) (by decide) rfl h6 dX7_newHour_9 ?_
  refine x_iconst 2 dX7_newHour_12 (by decide) ?_
  refine x_iload 4 dX7_newHour_13 rfl ?_
  refine x_iadd dX7_newHour_15 ?_
  refine x_iload_n 1 dX7_newHour_16 rfl ?_
  obtain ⟨m7, h8, hf⟩ := bnd hf
  refine x_iast h8 dX7_newHour_17 ?_
  refine x_aload_n 0 dX7_newHour_18 rfl ?_
  obtain ⟨x9, h10, hf⟩ := bnd hf
  refine x_getR wF_X7_16 (by decide) (by decide) rfl h10 dX7_newHour_19 ?_
  refine x_bipush 9 dX7_newHour_22 (by decide) ?_
  refine x_iload 4 dX7_newHour_24 rfl ?_
  refine x_iadd dX7_newHour_26 ?_
  refine x_iload_n 2 dX7_newHour_27 rfl ?_
  obtain ⟨m11, h12, hf⟩ := bnd hf
  refine x_iast h12 dX7_newHour_28 ?_
  refine x_aload_n 0 dX7_newHour_29 rfl ?_
  obtain ⟨x13, h14, hf⟩ := bnd hf
  refine x_getR wF_X7_16 (by decide) (by decide) rfl h14 dX7_newHour_30 ?_
  refine x_iconst 1 dX7_newHour_33 (by decide) ?_
  refine x_dup2 dX7_newHour_34 rfl rfl ?_
  obtain ⟨x15, h16, hf⟩ := bnd hf
  refine x_iald h16 dX7_newHour_35 ?_
  refine x_iconst 1 dX7_newHour_36 (by decide) ?_
  refine x_iadd dX7_newHour_37 ?_
  obtain ⟨m17, h18, hf⟩ := bnd hf
  refine x_iast h18 dX7_newHour_38 ?_
  refine x_aload_n 0 dX7_newHour_39 rfl ?_
  refine x_iload 4 dX7_newHour_40 rfl ?_
  refine x_iload_n 3 dX7_newHour_42 rfl ?_
  obtain ⟨q19, h20, hf⟩ := bnd hf
  refine x_callVv (rest := []) [.int x3, .int u3] (tX7_lays a x3 u3 m17 h20) wY_X7_lays wI_X7_lays wS_X7_lays wL_X7_95 (grd_p h20) (by decide) rfl rfl (Nat.le_of_ble_eq_true rfl) ⟨Nat.le_of_ble_eq_true rfl, Nat.le_of_ble_eq_true rfl⟩ ⟨Nat.le_refl _, Nat.le_refl _⟩ dX7_newHour_43 ?_
  exact y_vret rfl rfl rfl hf dX7_newHour_46
abbrev LX7_readsHour (G : Gm) (p : Program) (l : Launch) (e : Env) (s : State) (m : MethodId) (args : Array Value) (below : List Frame) (meth : Method) (c : Code) (r : Int32 × Mu) (pc : Nat) (lv : List (Nat × Value)) (st : List Value) (μ : Mu) : Prop := Lt G p l e { frames := 3, cells := 0, slots := 0, locals := 40 * (3) } s m args below meth c cX7_readsHour 5 RX7 (some .boolean) "readsHour" (MQ below (Qm G (some (.int r.1)) r.2 0) args s 0 0 (fA G)) 0 0 pc lv st μ
def fX7_readsHour_106 (v0 : Nat) (v1 : Int32) (v2 : Int32) (v3 : Int32) (v4 : Int32) (μ : Mu) : Option (Int32 × Mu) := (if v1 = 0 then
    (fX7_newHour v0 v2 v3 (-1) μ).bind fun q17 =>
    some (1, q17)
    else
    (fX7_newHour v0 v2 v3 v4 μ).bind fun q19 =>
    some (1, q19))
set_option maxRecDepth 20000 in
theorem tX7_readsHour_106 {G : Gm} {p : Program} {l : Launch} {e : Env} {s : State} {m : MethodId} {args : Array Value} {below : List Frame} {meth : Method} {c : Code} {r : Int32 × Mu} (v0 : Nat) (v1 : Int32) (v2 : Int32) (v3 : Int32) (v4 : Int32) (μ : Mu) (hf : fX7_readsHour_106 v0 v1 v2 v3 v4 μ = some r) : LX7_readsHour G p l e s m args below meth c r 106 [(0, .ref (gB G + v0)), (1, .int v1), (2, .int v2), (3, .int v3), (4, .int v4)] [] μ := by
  rw [fX7_readsHour_106] at hf
  refine x_aload_n 0 dX7_readsHour_106 rfl ?_
  refine x_iload_n 2 dX7_readsHour_107 rfl ?_
  refine x_iload_n 3 dX7_readsHour_108 rfl ?_
  refine x_iload_n 1 dX7_readsHour_109 rfl ?_
  refine x_if_eq 118 dX7_readsHour_110 rfl (fun c16 => ?_) (fun c16 => ?_)
  · rw [if_pos c16] at hf
    refine x_iconst (-1) dX7_readsHour_118 (by decide) ?_
    obtain ⟨q17, h18, hf⟩ := bnd hf
    refine x_callVv (rest := []) [.int v2, .int v3, .int (-1)] (tX7_newHour v0 v2 v3 (-1) μ h18) wY_X7_newHour wI_X7_newHour wS_X7_newHour wL_X7_52 (grd_p h18) (by decide) rfl rfl (Nat.le_of_ble_eq_true rfl) ⟨Nat.le_of_ble_eq_true rfl, Nat.le_of_ble_eq_true rfl⟩ ⟨Nat.le_refl _, Nat.le_refl _⟩ dX7_readsHour_119 ?_
    refine x_iconst 1 dX7_readsHour_122 (by decide) ?_
    exact y_zret rfl (by decide) rfl rfl hf dX7_readsHour_123
  · rw [if_neg c16] at hf
    refine x_iload 4 dX7_readsHour_113 rfl ?_
    refine x_goto 119 dX7_readsHour_115 rfl ?_
    obtain ⟨q19, h20, hf⟩ := bnd hf
    refine x_callVv (rest := []) [.int v2, .int v3, .int v4] (tX7_newHour v0 v2 v3 v4 μ h20) wY_X7_newHour wI_X7_newHour wS_X7_newHour wL_X7_52 (grd_p h20) (by decide) rfl rfl (Nat.le_of_ble_eq_true rfl) ⟨Nat.le_of_ble_eq_true rfl, Nat.le_of_ble_eq_true rfl⟩ ⟨Nat.le_refl _, Nat.le_refl _⟩ dX7_readsHour_119 ?_
    refine x_iconst 1 dX7_readsHour_122 (by decide) ?_
    exact y_zret rfl (by decide) rfl rfl hf dX7_readsHour_123
def fX7_readsHour_78 (v0 : Nat) (v1 : Int32) (v2 : Int32) (v3 : Int32) (v4 : Int32) (μ : Mu) : Option (Int32 × Mu) := (gR 7 v0 3 μ).bind fun x10 =>
    (aI 8 x10 1 μ).bind fun x12 =>
    (if x12 = 7 then
    some (0, μ)
    else
    (if v1 = 0 then
    fX7_readsHour_106  v0 v1 v2 v3 v4 μ
    else
    (fX7_isFit v0 v2 v4 1 μ).bind fun q21 =>
    (if q21.1 = 0 then
    some (0, q21.2)
    else
    fX7_readsHour_106  v0 v1 v2 v3 v4 q21.2)))
set_option maxRecDepth 20000 in
theorem tX7_readsHour_78 {G : Gm} {p : Program} {l : Launch} {e : Env} {s : State} {m : MethodId} {args : Array Value} {below : List Frame} {meth : Method} {c : Code} {r : Int32 × Mu} (v0 : Nat) (v1 : Int32) (v2 : Int32) (v3 : Int32) (v4 : Int32) (μ : Mu) (hf : fX7_readsHour_78 v0 v1 v2 v3 v4 μ = some r) : LX7_readsHour G p l e s m args below meth c r 78 [(0, .ref (gB G + v0)), (1, .int v1), (2, .int v2), (3, .int v3), (4, .int v4)] [] μ := by
  rw [fX7_readsHour_78] at hf
  refine x_aload_n 0 dX7_readsHour_78 rfl ?_
  obtain ⟨x10, h11, hf⟩ := bnd hf
  refine x_getR wF_X7_16 (by decide) (by decide) rfl h11 dX7_readsHour_79 ?_
  refine x_iconst 1 dX7_readsHour_82 (by decide) ?_
  obtain ⟨x12, h13, hf⟩ := bnd hf
  refine x_iald h13 dX7_readsHour_83 ?_
  refine x_bipush 7 dX7_readsHour_84 (by decide) ?_
  refine x_icmp_eq 104 dX7_readsHour_86 rfl (fun c14 => ?_) (fun c14 => ?_)
  · rw [if_pos c14] at hf
    refine x_iconst 0 dX7_readsHour_104 (by decide) ?_
    exact y_zret rfl (by decide) rfl rfl hf dX7_readsHour_105
  · rw [if_neg c14] at hf
    refine x_iload_n 1 dX7_readsHour_89 rfl ?_
    refine x_if_eq 106 dX7_readsHour_90 rfl (fun c15 => ?_) (fun c15 => ?_)
    · rw [if_pos c15] at hf
      exact tX7_readsHour_106  v0 v1 v2 v3 v4 μ hf
    · rw [if_neg c15] at hf
      refine x_aload_n 0 dX7_readsHour_93 rfl ?_
      refine x_iload_n 2 dX7_readsHour_94 rfl ?_
      refine x_iload 4 dX7_readsHour_95 rfl ?_
      refine x_iconst 1 dX7_readsHour_97 (by decide) ?_
      obtain ⟨q21, h22, hf⟩ := bnd hf
      refine x_callVi (rest := []) [.int v2, .int v4, .int 1] (tX7_isFit v0 v2 v4 1 μ h22) wY_X7_isFit wI_X7_isFit wS_X7_isFit wL_X7_103 (grd_p h22) (by decide) rfl rfl (Nat.le_of_ble_eq_true rfl) ⟨Nat.le_of_ble_eq_true rfl, Nat.le_of_ble_eq_true rfl⟩ ⟨Nat.le_refl _, Nat.le_refl _⟩ dX7_readsHour_98 ?_
      refine x_if_ne 106 dX7_readsHour_101 rfl (fun c23 => ?_) (fun c23 => ?_)
      · rw [if_neg c23] at hf
        exact tX7_readsHour_106  v0 v1 v2 v3 v4 q21.2 hf
      · rw [if_pos c23] at hf
        refine x_iconst 0 dX7_readsHour_104 (by decide) ?_
        exact y_zret rfl (by decide) rfl rfl hf dX7_readsHour_105
def fX7_readsHour_63 (v0 : Nat) (v1 : Int32) (v2 : Int32) (v3 : Int32) (s0 : Int32) (μ : Mu) : Option (Int32 × Mu) := (if v3 < 0 then
    some (0, μ)
    else
    (if v1 = 0 then
    fX7_readsHour_78  v0 v1 v2 v3 s0 μ
    else
    (if s0 < 0 then
    some (0, μ)
    else
    fX7_readsHour_78  v0 v1 v2 v3 s0 μ)))
set_option maxRecDepth 20000 in
theorem tX7_readsHour_63 {G : Gm} {p : Program} {l : Launch} {e : Env} {s : State} {m : MethodId} {args : Array Value} {below : List Frame} {meth : Method} {c : Code} {r : Int32 × Mu} (v0 : Nat) (v1 : Int32) (v2 : Int32) (v3 : Int32) (s0 : Int32) (μ : Mu) (hf : fX7_readsHour_63 v0 v1 v2 v3 s0 μ = some r) : LX7_readsHour G p l e s m args below meth c r 63 [(0, .ref (gB G + v0)), (1, .int v1), (2, .int v2), (3, .int v3)] [.int s0] μ := by
  rw [fX7_readsHour_63] at hf
  refine x_istore [1, 2, 3, 4, 0] dX7_readsHour_63 (by decide) (lv' := [(0, .ref (gB G + v0)), (1, .int v1), (2, .int v2), (3, .int v3), (4, .int s0)]) rfl ?_
  refine x_iload_n 3 dX7_readsHour_65 rfl ?_
  refine x_if_lt 104 dX7_readsHour_66 rfl (fun c8 => ?_) (fun c8 => ?_)
  · rw [if_pos c8] at hf
    refine x_iconst 0 dX7_readsHour_104 (by decide) ?_
    exact y_zret rfl (by decide) rfl rfl hf dX7_readsHour_105
  · rw [if_neg c8] at hf
    refine x_iload_n 1 dX7_readsHour_69 rfl ?_
    refine x_if_eq 78 dX7_readsHour_70 rfl (fun c9 => ?_) (fun c9 => ?_)
    · rw [if_pos c9] at hf
      exact tX7_readsHour_78  v0 v1 v2 v3 s0 μ hf
    · rw [if_neg c9] at hf
      refine x_iload 4 dX7_readsHour_73 rfl ?_
      refine x_if_lt 104 dX7_readsHour_75 rfl (fun c24 => ?_) (fun c24 => ?_)
      · rw [if_pos c24] at hf
        refine x_iconst 0 dX7_readsHour_104 (by decide) ?_
        exact y_zret rfl (by decide) rfl rfl hf dX7_readsHour_105
      · rw [if_neg c24] at hf
        exact tX7_readsHour_78  v0 v1 v2 v3 s0 μ hf
def fX7_readsHour_35 (v0 : Nat) (v1 : Int32) (v2 : Int32) (s0 : Int32) (μ : Mu) : Option (Int32 × Mu) := (if s0 < 0 then
    fX7_readsHour_63  v0 v1 v2 s0 (-1) μ
    else
    (if v1 = 0 then
    fX7_readsHour_63  v0 v1 v2 s0 (-1) μ
    else
    (gR 7 v0 3 μ).bind fun x26 =>
    (aI 8 x26 0 μ).bind fun x28 =>
    (fX7_number v0 0 (x28 - 1) 59 μ).bind fun q30 =>
    fX7_readsHour_63  v0 v1 v2 s0 q30.1 q30.2))
set_option maxRecDepth 20000 in
theorem tX7_readsHour_35 {G : Gm} {p : Program} {l : Launch} {e : Env} {s : State} {m : MethodId} {args : Array Value} {below : List Frame} {meth : Method} {c : Code} {r : Int32 × Mu} (v0 : Nat) (v1 : Int32) (v2 : Int32) (s0 : Int32) (μ : Mu) (hf : fX7_readsHour_35 v0 v1 v2 s0 μ = some r) : LX7_readsHour G p l e s m args below meth c r 35 [(0, .ref (gB G + v0)), (1, .int v1), (2, .int v2)] [.int s0] μ := by
  rw [fX7_readsHour_35] at hf
  refine x_istore_n [1, 2, 3, 0] dX7_readsHour_35 (by decide) (lv' := [(0, .ref (gB G + v0)), (1, .int v1), (2, .int v2), (3, .int s0)]) rfl ?_
  refine x_iload_n 3 dX7_readsHour_36 rfl ?_
  refine x_if_lt 44 dX7_readsHour_37 rfl (fun c7 => ?_) (fun c7 => ?_)
  · rw [if_pos c7] at hf
    refine x_iconst (-1) dX7_readsHour_44 (by decide) ?_
    refine x_goto 63 dX7_readsHour_45 rfl ?_
    exact tX7_readsHour_63  v0 v1 v2 s0 (-1) μ hf
  · rw [if_neg c7] at hf
    refine x_iload_n 1 dX7_readsHour_40 rfl ?_
    refine x_if_ne 48 dX7_readsHour_41 rfl (fun c25 => ?_) (fun c25 => ?_)
    · rw [if_neg c25] at hf
      refine x_aload_n 0 dX7_readsHour_48 rfl ?_
      refine x_iconst 0 dX7_readsHour_49 (by decide) ?_
      refine x_aload_n 0 dX7_readsHour_50 rfl ?_
      obtain ⟨x26, h27, hf⟩ := bnd hf
      refine x_getR wF_X7_16 (by decide) (by decide) rfl h27 dX7_readsHour_51 ?_
      refine x_iconst 0 dX7_readsHour_54 (by decide) ?_
      obtain ⟨x28, h29, hf⟩ := bnd hf
      refine x_iald h29 dX7_readsHour_55 ?_
      refine x_iconst 1 dX7_readsHour_56 (by decide) ?_
      refine x_isub dX7_readsHour_57 ?_
      refine x_bipush 59 dX7_readsHour_58 (by decide) ?_
      obtain ⟨q30, h31, hf⟩ := bnd hf
      refine x_callVi (rest := []) [.int 0, .int (x28 - 1), .int 59] (tX7_number v0 0 (x28 - 1) 59 μ h31) wY_X7_number wI_X7_number wS_X7_number wL_X7_99 (grd_p h31) (by decide) rfl rfl (Nat.le_of_ble_eq_true rfl) ⟨Nat.le_of_ble_eq_true rfl, Nat.le_of_ble_eq_true rfl⟩ ⟨Nat.le_refl _, Nat.le_refl _⟩ dX7_readsHour_60 ?_
      exact tX7_readsHour_63  v0 v1 v2 s0 q30.1 q30.2 hf
    · rw [if_pos c25] at hf
      refine x_iconst (-1) dX7_readsHour_44 (by decide) ?_
      refine x_goto 63 dX7_readsHour_45 rfl ?_
      exact tX7_readsHour_63  v0 v1 v2 s0 (-1) μ hf
def fX7_readsHour (a : Nat) (u1 : Int32) (μ : Mu) : Option (Int32 × Mu) := grd (isO 7 a μ) ((fX7_number a 0 3 44 μ).bind fun q1 =>
    (if 0 ≤ q1.1 then
    (if u1 = 0 then
    (fX7_number a 1 20 59 q1.2).bind fun q5 =>
    fX7_readsHour_35  a u1 q1.1 q5.1 q5.2
    else
    (fX7_number a 1 20 44 q1.2).bind fun q32 =>
    fX7_readsHour_35  a u1 q1.1 q32.1 q32.2)
    else
    fX7_readsHour_35  a u1 q1.1 (-1) q1.2))
set_option maxRecDepth 20000 in
theorem tX7_readsHour {G : Gm} {l : Launch} {r : Int32 × Mu} (a : Nat) (u1 : Int32) (μ : Mu) (hf : fX7_readsHour a u1 μ = some r) : Mt G l yX7_readsHour cX7_readsHour 5 (some .boolean) (3) 0 0 [.ref (gB G + a), .int u1] μ (some (.int r.1)) r.2 := by
  rw [fX7_readsHour] at hf
  have hf := grd_v hf
  refine Mt.of (by decide) (Nat.le_of_ble_eq_true rfl) (fun p e s m args below meth c => ?_)
  show LX7_readsHour G p l e s m args below meth c r 0 [(0, .ref (gB G + a)), (1, .int u1)] [] μ
  refine x_aload_n 0 dX7_readsHour_0 rfl ?_
  refine x_iconst 0 dX7_readsHour_1 (by decide) ?_
  refine x_iconst 3 dX7_readsHour_2 (by decide) ?_
  refine x_bipush 44 dX7_readsHour_3 (by decide) ?_
  obtain ⟨q1, h2, hf⟩ := bnd hf
  refine x_callVi (rest := []) [.int 0, .int 3, .int 44] (tX7_number a 0 3 44 μ h2) wY_X7_number wI_X7_number wS_X7_number wL_X7_99 (grd_p h2) (by decide) rfl rfl (Nat.le_of_ble_eq_true rfl) ⟨Nat.le_of_ble_eq_true rfl, Nat.le_of_ble_eq_true rfl⟩ ⟨Nat.le_refl _, Nat.le_refl _⟩ dX7_readsHour_5 ?_
  refine x_istore_n [1, 2, 0] dX7_readsHour_8 (by decide) (lv' := [(0, .ref (gB G + a)), (1, .int u1), (2, .int q1.1)]) rfl ?_
  refine x_iload_n 2 dX7_readsHour_9 rfl ?_
  refine x_if_ge 17 dX7_readsHour_10 rfl (fun c3 => ?_) (fun c3 => ?_)
  · rw [if_pos c3] at hf
    refine x_aload_n 0 dX7_readsHour_17 rfl ?_
    refine x_iconst 1 dX7_readsHour_18 (by decide) ?_
    refine x_bipush 20 dX7_readsHour_19 (by decide) ?_
    refine x_iload_n 1 dX7_readsHour_21 rfl ?_
    refine x_if_eq 30 dX7_readsHour_22 rfl (fun c4 => ?_) (fun c4 => ?_)
    · rw [if_pos c4] at hf
      refine x_bipush 59 dX7_readsHour_30 (by decide) ?_
      obtain ⟨q5, h6, hf⟩ := bnd hf
      refine x_callVi (rest := []) [.int 1, .int 20, .int 59] (tX7_number a 1 20 59 q1.2 h6) wY_X7_number wI_X7_number wS_X7_number wL_X7_99 (grd_p h6) (by decide) rfl rfl (Nat.le_of_ble_eq_true rfl) ⟨Nat.le_of_ble_eq_true rfl, Nat.le_of_ble_eq_true rfl⟩ ⟨Nat.le_refl _, Nat.le_refl _⟩ dX7_readsHour_32 ?_
      exact tX7_readsHour_35  a u1 q1.1 q5.1 q5.2 hf
    · rw [if_neg c4] at hf
      refine x_bipush 44 dX7_readsHour_25 (by decide) ?_
      refine x_goto 32 dX7_readsHour_27 rfl ?_
      obtain ⟨q32, h33, hf⟩ := bnd hf
      refine x_callVi (rest := []) [.int 1, .int 20, .int 44] (tX7_number a 1 20 44 q1.2 h33) wY_X7_number wI_X7_number wS_X7_number wL_X7_99 (grd_p h33) (by decide) rfl rfl (Nat.le_of_ble_eq_true rfl) ⟨Nat.le_of_ble_eq_true rfl, Nat.le_of_ble_eq_true rfl⟩ ⟨Nat.le_refl _, Nat.le_refl _⟩ dX7_readsHour_32 ?_
      exact tX7_readsHour_35  a u1 q1.1 q32.1 q32.2 hf
  · rw [if_neg c3] at hf
    refine x_iconst (-1) dX7_readsHour_13 (by decide) ?_
    refine x_goto 35 dX7_readsHour_14 rfl ?_
    exact tX7_readsHour_35  a u1 q1.1 (-1) q1.2 hf
abbrev LX7_readsItem (G : Gm) (p : Program) (l : Launch) (e : Env) (s : State) (m : MethodId) (args : Array Value) (below : List Frame) (meth : Method) (c : Code) (r : Int32 × Mu) (pc : Nat) (lv : List (Nat × Value)) (st : List Value) (μ : Mu) : Prop := Lt G p l e { frames := 4, cells := 0, slots := 0, locals := 40 * (4) } s m args below meth c cX7_readsItem 3 RX7 (some .boolean) "readsItem" (MQ below (Qm G (some (.int r.1)) r.2 0) args s 0 0 (fA G)) 0 0 pc lv st μ
def fX7_readsItem (a : Nat) (u1 : Int32) (μ : Mu) : Option (Int32 × Mu) := grd (isO 7 a μ) ((if u1 = 102 then
    (fX7_number a 0 39 59 μ).bind fun q2 =>
    (if q2.1 < 0 then
    (if q2.1 < 0 then
    some (0, q2.2)
    else
    some (1, q2.2))
    else
    (gR 7 a 3 q2.2).bind fun x6 =>
    (bI 8 x6 (16 + q2.1) 1 q2.2).bind fun m8 =>
    (if q2.1 < 0 then
    some (0, m8)
    else
    some (1, m8)))
    else if u1 = 103 then
    (fX7_number a 1 9 59 μ).bind fun q12 =>
    (if q12.1 < 0 then
    some (0, q12.2)
    else
    (gR 7 a 3 q12.2).bind fun x15 =>
    (aI 8 x15 0 q12.2).bind fun x17 =>
    (if x17 = 5 then
    some (0, q12.2)
    else
    (gR 7 a 4 q12.2).bind fun x20 =>
    (gR 7 a 3 q12.2).bind fun x22 =>
    (aI 8 x22 0 q12.2).bind fun x24 =>
    (bI 8 x20 (2 + x24) q12.1 q12.2).bind fun m26 =>
    (gR 7 a 3 m26).bind fun x28 =>
    (aI 8 x28 0 m26).bind fun x30 =>
    (bI 8 x28 0 (x30 + 1) m26).bind fun m32 =>
    some (1, m32)))
    else if u1 = 104 then
    (fX7_readsHour a 1 μ).bind fun q35 =>
    grd (q35.1 = 0 ∨ q35.1 = 1) (some (q35.1, q35.2))
    else if u1 = 119 then
    (fX7_readsHour a 0 μ).bind fun q38 =>
    grd (q38.1 = 0 ∨ q38.1 = 1) (some (q38.1, q38.2))
    else some (0, μ)))
set_option maxRecDepth 20000 in
theorem tX7_readsItem {G : Gm} {l : Launch} {r : Int32 × Mu} (a : Nat) (u1 : Int32) (μ : Mu) (hf : fX7_readsItem a u1 μ = some r) : Mt G l yX7_readsItem cX7_readsItem 3 (some .boolean) (4) 0 0 [.ref (gB G + a), .int u1] μ (some (.int r.1)) r.2 := by
  rw [fX7_readsItem] at hf
  have hf := grd_v hf
  refine Mt.of (by decide) (Nat.le_of_ble_eq_true rfl) (fun p e s m args below meth c => ?_)
  show LX7_readsItem G p l e s m args below meth c r 0 [(0, .ref (gB G + a)), (1, .int u1)] [] μ
  refine x_iload_n 1 dX7_readsItem_0 rfl ?_
  by_cases c1 : u1 = 102
  · rw [if_pos c1] at hf
    refine x_lookup 108 dX7_readsItem_1 (by decide) (by rw [c1]) rfl ?_
    refine x_aload_n 0 dX7_readsItem_108 rfl ?_
    refine x_iconst 0 dX7_readsItem_109 (by decide) ?_
    refine x_bipush 39 dX7_readsItem_110 (by decide) ?_
    refine x_bipush 59 dX7_readsItem_112 (by decide) ?_
    obtain ⟨q2, h3, hf⟩ := bnd hf
    refine x_callVi (rest := []) [.int 0, .int 39, .int 59] (tX7_number a 0 39 59 μ h3) wY_X7_number wI_X7_number wS_X7_number wL_X7_99 (grd_p h3) (by decide) rfl rfl (Nat.le_of_ble_eq_true rfl) ⟨Nat.le_of_ble_eq_true rfl, Nat.le_of_ble_eq_true rfl⟩ ⟨Nat.le_refl _, Nat.le_refl _⟩ dX7_readsItem_114 ?_
    refine x_istore_n [1, 2, 0] dX7_readsItem_117 (by decide) (lv' := [(0, .ref (gB G + a)), (1, .int u1), (2, .int q2.1)]) rfl ?_
    refine x_iload_n 2 dX7_readsItem_118 rfl ?_
    refine x_if_lt 132 dX7_readsItem_119 rfl (fun c4 => ?_) (fun c4 => ?_)
    · rw [if_pos c4] at hf
      refine x_iload_n 2 dX7_readsItem_132 rfl ?_
      refine x_if_lt 140 dX7_readsItem_133 rfl (fun c5 => ?_) (fun c5 => ?_)
      · rw [if_pos c5] at hf
        refine x_iconst 0 dX7_readsItem_140 (by decide) ?_
        exact y_zret rfl (by decide) rfl rfl hf dX7_readsItem_141
      · rw [if_neg c5] at hf
        refine x_iconst 1 dX7_readsItem_136 (by decide) ?_
        refine x_goto 141 dX7_readsItem_137 rfl ?_
        exact y_zret rfl (by decide) rfl rfl hf dX7_readsItem_141
    · rw [if_neg c4] at hf
      refine x_aload_n 0 dX7_readsItem_122 rfl ?_
      obtain ⟨x6, h7, hf⟩ := bnd hf
      refine x_getR wF_X7_16 (by decide) (by decide) rfl h7 dX7_readsItem_123 ?_
      refine x_bipush 16 dX7_readsItem_126 (by decide) ?_
      refine x_iload_n 2 dX7_readsItem_128 rfl ?_
      refine x_iadd dX7_readsItem_129 ?_
      refine x_iconst 1 dX7_readsItem_130 (by decide) ?_
      obtain ⟨m8, h9, hf⟩ := bnd hf
      refine x_iast h9 dX7_readsItem_131 ?_
      refine x_iload_n 2 dX7_readsItem_132 rfl ?_
      refine x_if_lt 140 dX7_readsItem_133 rfl (fun c10 => ?_) (fun c10 => ?_)
      · rw [if_pos c10] at hf
        refine x_iconst 0 dX7_readsItem_140 (by decide) ?_
        exact y_zret rfl (by decide) rfl rfl hf dX7_readsItem_141
      · rw [if_neg c10] at hf
        refine x_iconst 1 dX7_readsItem_136 (by decide) ?_
        refine x_goto 141 dX7_readsItem_137 rfl ?_
        exact y_zret rfl (by decide) rfl rfl hf dX7_readsItem_141
  rw [if_neg c1] at hf
  by_cases c11 : u1 = 103
  · rw [if_pos c11] at hf
    refine x_lookup 44 dX7_readsItem_1 (by decide) (by rw [c11]) rfl ?_
    refine x_aload_n 0 dX7_readsItem_44 rfl ?_
    refine x_iconst 1 dX7_readsItem_45 (by decide) ?_
    refine x_bipush 9 dX7_readsItem_46 (by decide) ?_
    refine x_bipush 59 dX7_readsItem_48 (by decide) ?_
    obtain ⟨q12, h13, hf⟩ := bnd hf
    refine x_callVi (rest := []) [.int 1, .int 9, .int 59] (tX7_number a 1 9 59 μ h13) wY_X7_number wI_X7_number wS_X7_number wL_X7_99 (grd_p h13) (by decide) rfl rfl (Nat.le_of_ble_eq_true rfl) ⟨Nat.le_of_ble_eq_true rfl, Nat.le_of_ble_eq_true rfl⟩ ⟨Nat.le_refl _, Nat.le_refl _⟩ dX7_readsItem_50 ?_
    refine x_istore_n [1, 2, 0] dX7_readsItem_53 (by decide) (lv' := [(0, .ref (gB G + a)), (1, .int u1), (2, .int q12.1)]) rfl ?_
    refine x_iload_n 2 dX7_readsItem_54 rfl ?_
    refine x_if_lt 68 dX7_readsItem_55 rfl (fun c14 => ?_) (fun c14 => ?_)
    · rw [if_pos c14] at hf
      refine x_iconst 0 dX7_readsItem_68 (by decide) ?_
      exact y_zret rfl (by decide) rfl rfl hf dX7_readsItem_69
    · rw [if_neg c14] at hf
      refine x_aload_n 0 dX7_readsItem_58 rfl ?_
      obtain ⟨x15, h16, hf⟩ := bnd hf
      refine x_getR wF_X7_16 (by decide) (by decide) rfl h16 dX7_readsItem_59 ?_
      refine x_iconst 0 dX7_readsItem_62 (by decide) ?_
      obtain ⟨x17, h18, hf⟩ := bnd hf
      refine x_iald h18 dX7_readsItem_63 ?_
      refine x_iconst 5 dX7_readsItem_64 (by decide) ?_
      refine x_icmp_ne 70 dX7_readsItem_65 rfl (fun c19 => ?_) (fun c19 => ?_)
      · rw [if_neg c19] at hf
        refine x_aload_n 0 dX7_readsItem_70 rfl ?_
        obtain ⟨x20, h21, hf⟩ := bnd hf
        refine x_getR wF_X7_19 (by decide) (by decide) rfl h21 dX7_readsItem_71 ?_
        refine x_iconst 2 dX7_readsItem_74 (by decide) ?_
        refine x_aload_n 0 dX7_readsItem_75 rfl ?_
        obtain ⟨x22, h23, hf⟩ := bnd hf
        refine x_getR wF_X7_16 (by decide) (by decide) rfl h23 dX7_readsItem_76 ?_
        refine x_iconst 0 dX7_readsItem_79 (by decide) ?_
        obtain ⟨x24, h25, hf⟩ := bnd hf
        refine x_iald h25 dX7_readsItem_80 ?_
        refine x_iadd dX7_readsItem_81 ?_
        refine x_iload_n 2 dX7_readsItem_82 rfl ?_
        obtain ⟨m26, h27, hf⟩ := bnd hf
        refine x_iast h27 dX7_readsItem_83 ?_
        refine x_aload_n 0 dX7_readsItem_84 rfl ?_
        obtain ⟨x28, h29, hf⟩ := bnd hf
        refine x_getR wF_X7_16 (by decide) (by decide) rfl h29 dX7_readsItem_85 ?_
        refine x_iconst 0 dX7_readsItem_88 (by decide) ?_
        refine x_dup2 dX7_readsItem_89 rfl rfl ?_
        obtain ⟨x30, h31, hf⟩ := bnd hf
        refine x_iald h31 dX7_readsItem_90 ?_
        refine x_iconst 1 dX7_readsItem_91 (by decide) ?_
        refine x_iadd dX7_readsItem_92 ?_
        obtain ⟨m32, h33, hf⟩ := bnd hf
        refine x_iast h33 dX7_readsItem_93 ?_
        refine x_iconst 1 dX7_readsItem_94 (by decide) ?_
        exact y_zret rfl (by decide) rfl rfl hf dX7_readsItem_95
      · rw [if_pos c19] at hf
        refine x_iconst 0 dX7_readsItem_68 (by decide) ?_
        exact y_zret rfl (by decide) rfl rfl hf dX7_readsItem_69
  rw [if_neg c11] at hf
  by_cases c34 : u1 = 104
  · rw [if_pos c34] at hf
    refine x_lookup 96 dX7_readsItem_1 (by decide) (by rw [c34]) rfl ?_
    refine x_aload_n 0 dX7_readsItem_96 rfl ?_
    refine x_iconst 1 dX7_readsItem_97 (by decide) ?_
    obtain ⟨q35, h36, hf⟩ := bnd hf
    refine x_callVi (rest := []) [.int 1] (tX7_readsHour a 1 μ h36) wY_X7_readsHour wI_X7_readsHour wS_X7_readsHour wL_X7_107 (grd_p h36) (by decide) rfl rfl (Nat.le_of_ble_eq_true rfl) ⟨Nat.le_of_ble_eq_true rfl, Nat.le_of_ble_eq_true rfl⟩ ⟨Nat.le_refl _, Nat.le_refl _⟩ dX7_readsItem_98 ?_
    exact y_zret rfl (grd_p hf) rfl rfl (grd_v hf) dX7_readsItem_101
  rw [if_neg c34] at hf
  by_cases c37 : u1 = 119
  · rw [if_pos c37] at hf
    refine x_lookup 102 dX7_readsItem_1 (by decide) (by rw [c37]) rfl ?_
    refine x_aload_n 0 dX7_readsItem_102 rfl ?_
    refine x_iconst 0 dX7_readsItem_103 (by decide) ?_
    obtain ⟨q38, h39, hf⟩ := bnd hf
    refine x_callVi (rest := []) [.int 0] (tX7_readsHour a 0 μ h39) wY_X7_readsHour wI_X7_readsHour wS_X7_readsHour wL_X7_107 (grd_p h39) (by decide) rfl rfl (Nat.le_of_ble_eq_true rfl) ⟨Nat.le_of_ble_eq_true rfl, Nat.le_of_ble_eq_true rfl⟩ ⟨Nat.le_refl _, Nat.le_refl _⟩ dX7_readsItem_104 ?_
    exact y_zret rfl (grd_p hf) rfl rfl (grd_v hf) dX7_readsItem_107
  rw [if_neg c37] at hf
  refine x_lookup (off := 141) 142 dX7_readsItem_1 (by decide) (by show Op.lookupswitch.offset [(102, 107), (103, 43), (104, 95), (119, 101)] 141 _ = 141; rw [lv_osw c1 (a := 102) (by decide), lv_osw c11 (a := 103) (by decide), lv_osw c34 (a := 104) (by decide), lv_osw c37 (a := 119) (by decide)]; rfl) rfl ?_
  refine x_iconst 0 dX7_readsItem_142 (by decide) ?_
  exact y_zret rfl (by decide) rfl rfl hf dX7_readsItem_143
abbrev LX7_readsAll (G : Gm) (p : Program) (l : Launch) (e : Env) (s : State) (m : MethodId) (args : Array Value) (below : List Frame) (meth : Method) (c : Code) (r : Int32 × Mu) (pc : Nat) (lv : List (Nat × Value)) (st : List Value) (μ : Mu) : Prop := Lt G p l e { frames := 5, cells := 0, slots := 0, locals := 40 * (5) } s m args below meth c cX7_readsAll 2 RX7 (some .int) "readsAll" (MQ below (Qm G (some (.int r.1)) r.2 0) args s 0 0 (fA G)) 0 0 pc lv st μ
def fX7_readsAll_9 : Nat → Nat → Mu → Option (Int32 × Mu)
  | 0, _, _ => none
  | n + 1, v0, μ => (gI 7 v0 11 μ).bind fun x5 =>
    (gI 7 v0 1 μ).bind fun x7 =>
    (if x7 ≤ x5 then
    some ((-4), μ)
    else
    (gI 7 v0 11 μ).bind fun x10 =>
    (gI 7 v0 11 μ).bind fun x12 =>
    (pI 7 v0 11 (x12 + 1) μ).bind fun m14 =>
    (gR 7 v0 0 m14).bind fun x16 =>
    (aI 8 x16 x10 m14).bind fun x18 =>
    (fX7_readsItem v0 x18 m14).bind fun q20 =>
    (if q20.1 = 0 then
    some (x10, q20.2)
    else
    (fX7_readsAll_9 n) v0 q20.2))
set_option maxRecDepth 20000 in
theorem tX7_readsAll_9 {G : Gm} {p : Program} {l : Launch} {e : Env} {s : State} {m : MethodId} {args : Array Value} {below : List Frame} {meth : Method} {c : Code} {r : Int32 × Mu} : ∀ (n : Nat) (v0 : Nat) (μ : Mu), fX7_readsAll_9 n v0 μ = some r → LX7_readsAll G p l e s m args below meth c r 9 [(0, .ref (gB G + v0))] [] μ := by
  intro n
  induction n with
  | zero =>
    intro v0 μ hf
    simp [fX7_readsAll_9] at hf
  | succ n ih =>
    intro v0 μ hf
    rw [fX7_readsAll_9] at hf
    refine x_aload_n 0 dX7_readsAll_9 rfl ?_
    obtain ⟨x5, h6, hf⟩ := bnd hf
    refine x_getI wF_X7_85 (by decide) (by decide) rfl h6 dX7_readsAll_10 ?_
    refine x_aload_n 0 dX7_readsAll_13 rfl ?_
    obtain ⟨x7, h8, hf⟩ := bnd hf
    refine x_getI wF_X7_81 (by decide) (by decide) rfl h8 dX7_readsAll_14 ?_
    refine x_icmp_ge 53 dX7_readsAll_17 rfl (fun c9 => ?_) (fun c9 => ?_)
    · rw [if_pos c9] at hf
      refine x_bipush (-4) dX7_readsAll_53 (by decide) ?_
      exact y_iret rfl rfl rfl hf dX7_readsAll_55
    · rw [if_neg c9] at hf
      refine x_aload_n 0 dX7_readsAll_20 rfl ?_
      obtain ⟨x10, h11, hf⟩ := bnd hf
      refine x_getI wF_X7_85 (by decide) (by decide) rfl h11 dX7_readsAll_21 ?_
      refine x_istore_n [1, 0] dX7_readsAll_24 (by decide) (lv' := [(0, .ref (gB G + v0)), (1, .int x10)]) rfl ?_
      refine x_aload_n 0 dX7_readsAll_25 rfl ?_
      refine x_dup dX7_readsAll_26 rfl ?_
      obtain ⟨x12, h13, hf⟩ := bnd hf
      refine x_getI wF_X7_85 (by decide) (by decide) rfl h13 dX7_readsAll_27 ?_
      refine x_iconst 1 dX7_readsAll_30 (by decide) ?_
      refine x_iadd dX7_readsAll_31 ?_
      obtain ⟨m14, h15, hf⟩ := bnd hf
      refine x_putI wF_X7_85 (by decide) (by decide) rfl rfl h15 dX7_readsAll_32 ?_
      refine x_aload_n 0 dX7_readsAll_35 rfl ?_
      refine x_aload_n 0 dX7_readsAll_36 rfl ?_
      obtain ⟨x16, h17, hf⟩ := bnd hf
      refine x_getR wF_X7_7 (by decide) (by decide) rfl h17 dX7_readsAll_37 ?_
      refine x_iload_n 1 dX7_readsAll_40 rfl ?_
      obtain ⟨x18, h19, hf⟩ := bnd hf
      refine x_iald h19 dX7_readsAll_41 ?_
      obtain ⟨q20, h21, hf⟩ := bnd hf
      refine x_callVi (rest := []) [.int x18] (tX7_readsItem v0 x18 m14 h21) wY_X7_readsItem wI_X7_readsItem wS_X7_readsItem wL_X7_111 (grd_p h21) (by decide) rfl rfl (Nat.le_of_ble_eq_true rfl) ⟨Nat.le_of_ble_eq_true rfl, Nat.le_of_ble_eq_true rfl⟩ ⟨Nat.le_refl _, Nat.le_refl _⟩ dX7_readsAll_42 ?_
      refine x_if_ne 50 dX7_readsAll_45 rfl (fun c22 => ?_) (fun c22 => ?_)
      · rw [if_neg c22] at hf
        refine x_goto 9 dX7_readsAll_50 rfl ?_
        refine x_sub [0] (lv' := [(0, .ref (gB G + v0))]) rfl ?_
        exact ih v0 q20.2 hf
      · rw [if_pos c22] at hf
        refine x_iload_n 1 dX7_readsAll_48 rfl ?_
        exact y_iret rfl rfl rfl hf dX7_readsAll_49
def fX7_readsAll (a : Nat) (μ : Mu) : Option (Int32 × Mu) := grd (isO 7 a μ) ((fX7_holds a  μ).bind fun q1 =>
    (pI 7 a 11 0 q1).bind fun m3 =>
    fX7_readsAll_9  FU a m3)
set_option maxRecDepth 20000 in
theorem tX7_readsAll {G : Gm} {l : Launch} {r : Int32 × Mu} (a : Nat) (μ : Mu) (hf : fX7_readsAll a μ = some r) : Mt G l yX7_readsAll cX7_readsAll 2 (some .int) (5) 0 0 [.ref (gB G + a)] μ (some (.int r.1)) r.2 := by
  rw [fX7_readsAll] at hf
  have hf := grd_v hf
  refine Mt.of (by decide) (Nat.le_of_ble_eq_true rfl) (fun p e s m args below meth c => ?_)
  show LX7_readsAll G p l e s m args below meth c r 0 [(0, .ref (gB G + a))] [] μ
  refine x_aload_n 0 dX7_readsAll_0 rfl ?_
  obtain ⟨q1, h2, hf⟩ := bnd hf
  refine x_callVv (rest := []) [] (tX7_holds a  μ h2) wY_X7_holds wI_X7_holds wS_X7_holds wL_X7_49 (grd_p h2) (by decide) rfl rfl (Nat.le_of_ble_eq_true rfl) ⟨Nat.le_of_ble_eq_true rfl, Nat.le_of_ble_eq_true rfl⟩ ⟨Nat.le_refl _, Nat.le_refl _⟩ dX7_readsAll_1 ?_
  refine x_aload_n 0 dX7_readsAll_4 rfl ?_
  refine x_iconst 0 dX7_readsAll_5 (by decide) ?_
  obtain ⟨m3, h4, hf⟩ := bnd hf
  refine x_putI wF_X7_85 (by decide) (by decide) rfl rfl h4 dX7_readsAll_6 ?_
  exact tX7_readsAll_9  FU a m3 hf
abbrev LX7_lets (G : Gm) (p : Program) (l : Launch) (e : Env) (s : State) (m : MethodId) (args : Array Value) (below : List Frame) (meth : Method) (c : Code) (r : Mu) (pc : Nat) (lv : List (Nat × Value)) (st : List Value) (μ : Mu) : Prop := Lt G p l e { frames := 0, cells := 0, slots := 0, locals := 40 * (0) } s m args below meth c cX7_lets 2 RX7 none "lets" (MQ below (Qm G none r 0) args s 0 0 (fA G)) 0 0 pc lv st μ
def fX7_lets_2 : Nat → Nat → Int32 → Mu → Option (Mu)
  | 0, _, _, _ => none
  | n + 1, v0, v1, μ => (if 21 ≤ v1 then
    some μ
    else
    (gR 7 v0 4 μ).bind fun x2 =>
    (gR 7 v0 12 μ).bind fun x4 =>
    (aI 8 x4 v1 μ).bind fun x6 =>
    (bI 8 x2 v1 x6 μ).bind fun m8 =>
    (fX7_lets_2 n) v0 (v1 + 1) m8)
set_option maxRecDepth 20000 in
theorem tX7_lets_2 {G : Gm} {p : Program} {l : Launch} {e : Env} {s : State} {m : MethodId} {args : Array Value} {below : List Frame} {meth : Method} {c : Code} {r : Mu} : ∀ (n : Nat) (v0 : Nat) (v1 : Int32) (μ : Mu), fX7_lets_2 n v0 v1 μ = some r → LX7_lets G p l e s m args below meth c r 2 [(0, .ref (gB G + v0)), (1, .int v1)] [] μ := by
  intro n
  induction n with
  | zero =>
    intro v0 v1 μ hf
    simp [fX7_lets_2] at hf
  | succ n ih =>
    intro v0 v1 μ hf
    rw [fX7_lets_2] at hf
    refine x_iload_n 1 dX7_lets_2 rfl ?_
    refine x_bipush 21 dX7_lets_3 (by decide) ?_
    refine x_icmp_ge 26 dX7_lets_5 rfl (fun c1 => ?_) (fun c1 => ?_)
    · rw [if_pos c1] at hf
      exact y_vret rfl rfl rfl hf dX7_lets_26
    · rw [if_neg c1] at hf
      refine x_aload_n 0 dX7_lets_8 rfl ?_
      obtain ⟨x2, h3, hf⟩ := bnd hf
      refine x_getR wF_X7_19 (by decide) (by decide) rfl h3 dX7_lets_9 ?_
      refine x_iload_n 1 dX7_lets_12 rfl ?_
      refine x_aload_n 0 dX7_lets_13 rfl ?_
      obtain ⟨x4, h5, hf⟩ := bnd hf
      refine x_getR wF_X7_31 (by decide) (by decide) rfl h5 dX7_lets_14 ?_
      refine x_iload_n 1 dX7_lets_17 rfl ?_
      obtain ⟨x6, h7, hf⟩ := bnd hf
      refine x_iald h7 dX7_lets_18 ?_
      obtain ⟨m8, h9, hf⟩ := bnd hf
      refine x_iast h9 dX7_lets_19 ?_
      refine x_iinc 1 (v1 + 1) [1, 0] dX7_lets_20 rfl rfl (by decide) (lv' := [(0, .ref (gB G + v0)), (1, .int (v1 + 1))]) rfl ?_
      refine x_goto 2 dX7_lets_23 rfl ?_
      exact ih v0 (v1 + 1) m8 hf
def fX7_lets (a : Nat) (μ : Mu) : Option (Mu) := grd (isO 7 a μ) (fX7_lets_2  FU a 0 μ)
set_option maxRecDepth 20000 in
theorem tX7_lets {G : Gm} {l : Launch} {r : Mu} (a : Nat) (μ : Mu) (hf : fX7_lets a μ = some r) : Mt G l yX7_lets cX7_lets 2 none (0) 0 0 [.ref (gB G + a)] μ none r := by
  rw [fX7_lets] at hf
  have hf := grd_v hf
  refine Mt.of (by decide) (Nat.le_of_ble_eq_true rfl) (fun p e s m args below meth c => ?_)
  show LX7_lets G p l e s m args below meth c r 0 [(0, .ref (gB G + a))] [] μ
  refine x_iconst 0 dX7_lets_0 (by decide) ?_
  refine x_istore_n [1, 0] dX7_lets_1 (by decide) (lv' := [(0, .ref (gB G + a)), (1, .int 0)]) rfl ?_
  exact tX7_lets_2  FU a 0 μ hf
abbrev LX7_fault (G : Gm) (p : Program) (l : Launch) (e : Env) (s : State) (m : MethodId) (args : Array Value) (below : List Frame) (meth : Method) (c : Code) (r : Int32 × Mu) (pc : Nat) (lv : List (Nat × Value)) (st : List Value) (μ : Mu) : Prop := Lt G p l e { frames := 6, cells := 0, slots := 0, locals := 40 * (6) } s m args below meth c cX7_fault 2 RX7 (some .int) "fault" (MQ below (Qm G (some (.int r.1)) r.2 0) args s 0 0 (fA G)) 0 0 pc lv st μ
def fX7_fault (a : Nat) (μ : Mu) : Option (Int32 × Mu) := grd (isO 7 a μ) ((fX7_readsAll a  μ).bind fun q1 =>
    (fX7_lets a  q1.2).bind fun q3 =>
    some (q1.1, q3))
set_option maxRecDepth 20000 in
theorem tX7_fault {G : Gm} {l : Launch} {r : Int32 × Mu} (a : Nat) (μ : Mu) (hf : fX7_fault a μ = some r) : Mt G l yX7_fault cX7_fault 2 (some .int) (6) 0 0 [.ref (gB G + a)] μ (some (.int r.1)) r.2 := by
  rw [fX7_fault] at hf
  have hf := grd_v hf
  refine Mt.of (by decide) (Nat.le_of_ble_eq_true rfl) (fun p e s m args below meth c => ?_)
  show LX7_fault G p l e s m args below meth c r 0 [(0, .ref (gB G + a))] [] μ
  refine x_aload_n 0 dX7_fault_0 rfl ?_
  obtain ⟨q1, h2, hf⟩ := bnd hf
  refine x_callVi (rest := []) [] (tX7_readsAll a  μ h2) wY_X7_readsAll wI_X7_readsAll wS_X7_readsAll wL_X7_114 (grd_p h2) (by decide) rfl rfl (Nat.le_of_ble_eq_true rfl) ⟨Nat.le_of_ble_eq_true rfl, Nat.le_of_ble_eq_true rfl⟩ ⟨Nat.le_refl _, Nat.le_refl _⟩ dX7_fault_1 ?_
  refine x_istore_n [1, 0] dX7_fault_4 (by decide) (lv' := [(0, .ref (gB G + a)), (1, .int q1.1)]) rfl ?_
  refine x_aload_n 0 dX7_fault_5 rfl ?_
  obtain ⟨q3, h4, hf⟩ := bnd hf
  refine x_callVv (rest := []) [] (tX7_lets a  q1.2 h4) wY_X7_lets wI_X7_lets wS_X7_lets wL_X7_118 (grd_p h4) (by decide) rfl rfl (Nat.le_of_ble_eq_true rfl) ⟨Nat.le_of_ble_eq_true rfl, Nat.le_of_ble_eq_true rfl⟩ ⟨Nat.le_refl _, Nat.le_refl _⟩ dX7_fault_6 ?_
  refine x_iload_n 1 dX7_fault_9 rfl ?_
  exact y_iret rfl rfl rfl hf dX7_fault_10
abbrev LX7_lay (G : Gm) (p : Program) (l : Launch) (e : Env) (s : State) (m : MethodId) (args : Array Value) (below : List Frame) (meth : Method) (c : Code) (r : Int32 × Mu) (pc : Nat) (lv : List (Nat × Value)) (st : List Value) (μ : Mu) : Prop := Lt G p l e { frames := 6, cells := 0, slots := 0, locals := 40 * (6) } s m args below meth c cX7_lay 2 RX7 (some .int) "lay" (MQ below (Qm G (some (.int r.1)) r.2 0) args s 0 0 (fA G)) 0 0 pc lv st μ
def fX7_lay_36 : Nat → Nat → Int32 → Mu → Option (Int32 × Mu)
  | 0, _, _, _ => none
  | n + 1, v0, v1, μ => (if 56 ≤ v1 then
    (pI 7 v0 6 0 μ).bind fun m19 =>
    (pI 7 v0 8 0 m19).bind fun m21 =>
    (pI 7 v0 10 0 m21).bind fun m23 =>
    (gR 7 v0 2 m23).bind fun x25 =>
    (aI 8 x25 1 m23).bind fun x27 =>
    some (x27, m23)
    else
    (gR 7 v0 2 μ).bind fun x29 =>
    (gR 7 v0 3 μ).bind fun x31 =>
    (aI 8 x31 v1 μ).bind fun x33 =>
    (bI 8 x29 v1 x33 μ).bind fun m35 =>
    (fX7_lay_36 n) v0 (v1 + 1) m35)
set_option maxRecDepth 20000 in
theorem tX7_lay_36 {G : Gm} {p : Program} {l : Launch} {e : Env} {s : State} {m : MethodId} {args : Array Value} {below : List Frame} {meth : Method} {c : Code} {r : Int32 × Mu} : ∀ (n : Nat) (v0 : Nat) (v1 : Int32) (μ : Mu), fX7_lay_36 n v0 v1 μ = some r → LX7_lay G p l e s m args below meth c r 36 [(0, .ref (gB G + v0)), (1, .int v1)] [] μ := by
  intro n
  induction n with
  | zero =>
    intro v0 v1 μ hf
    simp [fX7_lay_36] at hf
  | succ n ih =>
    intro v0 v1 μ hf
    rw [fX7_lay_36] at hf
    refine x_iload_n 1 dX7_lay_36 rfl ?_
    refine x_bipush 56 dX7_lay_37 (by decide) ?_
    refine x_icmp_ge 60 dX7_lay_39 rfl (fun c18 => ?_) (fun c18 => ?_)
    · rw [if_pos c18] at hf
      refine x_aload_n 0 dX7_lay_60 rfl ?_
      refine x_iconst 0 dX7_lay_61 (by decide) ?_
      obtain ⟨m19, h20, hf⟩ := bnd hf
      refine x_putI wF_X7_121 (by decide) (by decide) rfl rfl h20 dX7_lay_62 ?_
      refine x_aload_n 0 dX7_lay_65 rfl ?_
      refine x_iconst 0 dX7_lay_66 (by decide) ?_
      obtain ⟨m21, h22, hf⟩ := bnd hf
      refine x_putI wF_X7_124 (by decide) (by decide) rfl rfl h22 dX7_lay_67 ?_
      refine x_aload_n 0 dX7_lay_70 rfl ?_
      refine x_iconst 0 dX7_lay_71 (by decide) ?_
      obtain ⟨m23, h24, hf⟩ := bnd hf
      refine x_putI wF_X7_127 (by decide) (by decide) rfl rfl h24 dX7_lay_72 ?_
      refine x_aload_n 0 dX7_lay_75 rfl ?_
      obtain ⟨x25, h26, hf⟩ := bnd hf
      refine x_getR wF_X7_13 (by decide) (by decide) rfl h26 dX7_lay_76 ?_
      refine x_iconst 1 dX7_lay_79 (by decide) ?_
      obtain ⟨x27, h28, hf⟩ := bnd hf
      refine x_iald h28 dX7_lay_80 ?_
      exact y_iret rfl rfl rfl hf dX7_lay_81
    · rw [if_neg c18] at hf
      refine x_aload_n 0 dX7_lay_42 rfl ?_
      obtain ⟨x29, h30, hf⟩ := bnd hf
      refine x_getR wF_X7_13 (by decide) (by decide) rfl h30 dX7_lay_43 ?_
      refine x_iload_n 1 dX7_lay_46 rfl ?_
      refine x_aload_n 0 dX7_lay_47 rfl ?_
      obtain ⟨x31, h32, hf⟩ := bnd hf
      refine x_getR wF_X7_16 (by decide) (by decide) rfl h32 dX7_lay_48 ?_
      refine x_iload_n 1 dX7_lay_51 rfl ?_
      obtain ⟨x33, h34, hf⟩ := bnd hf
      refine x_iald h34 dX7_lay_52 ?_
      obtain ⟨m35, h36, hf⟩ := bnd hf
      refine x_iast h36 dX7_lay_53 ?_
      refine x_iinc 1 (v1 + 1) [1, 0] dX7_lay_54 rfl rfl (by decide) (lv' := [(0, .ref (gB G + v0)), (1, .int (v1 + 1))]) rfl ?_
      refine x_goto 36 dX7_lay_57 rfl ?_
      exact ih v0 (v1 + 1) m35 hf
def fX7_lay (a : Nat) (μ : Mu) : Option (Int32 × Mu) := grd (isO 7 a μ) ((fX7_readsAll a  μ).bind fun q1 =>
    (if q1.1 = (-4) then
    (gR 7 a 3 q1.2).bind fun x6 =>
    (aI 8 x6 0 q1.2).bind fun x8 =>
    (if x8 = 0 then
    (fX7_lets a  q1.2).bind fun q11 =>
    some ((-2), q11)
    else
    (gR 7 a 3 q1.2).bind fun x13 =>
    (aI 8 x13 1 q1.2).bind fun x15 =>
    (if x15 = 0 then
    (fX7_lets a  q1.2).bind fun q37 =>
    some ((-2), q37)
    else
    fX7_lay_36  FU a 0 q1.2))
    else
    (fX7_lets a  q1.2).bind fun q4 =>
    some ((-2), q4)))
set_option maxRecDepth 20000 in
theorem tX7_lay {G : Gm} {l : Launch} {r : Int32 × Mu} (a : Nat) (μ : Mu) (hf : fX7_lay a μ = some r) : Mt G l yX7_lay cX7_lay 2 (some .int) (6) 0 0 [.ref (gB G + a)] μ (some (.int r.1)) r.2 := by
  rw [fX7_lay] at hf
  have hf := grd_v hf
  refine Mt.of (by decide) (Nat.le_of_ble_eq_true rfl) (fun p e s m args below meth c => ?_)
  show LX7_lay G p l e s m args below meth c r 0 [(0, .ref (gB G + a))] [] μ
  refine x_aload_n 0 dX7_lay_0 rfl ?_
  obtain ⟨q1, h2, hf⟩ := bnd hf
  refine x_callVi (rest := []) [] (tX7_readsAll a  μ h2) wY_X7_readsAll wI_X7_readsAll wS_X7_readsAll wL_X7_114 (grd_p h2) (by decide) rfl rfl (Nat.le_of_ble_eq_true rfl) ⟨Nat.le_of_ble_eq_true rfl, Nat.le_of_ble_eq_true rfl⟩ ⟨Nat.le_refl _, Nat.le_refl _⟩ dX7_lay_1 ?_
  refine x_bipush (-4) dX7_lay_4 (by decide) ?_
  refine x_icmp_ne 27 dX7_lay_6 rfl (fun c3 => ?_) (fun c3 => ?_)
  · rw [if_neg c3] at hf
    refine x_aload_n 0 dX7_lay_27 rfl ?_
    obtain ⟨q4, h5, hf⟩ := bnd hf
    refine x_callVv (rest := []) [] (tX7_lets a  q1.2 h5) wY_X7_lets wI_X7_lets wS_X7_lets wL_X7_118 (grd_p h5) (by decide) rfl rfl (Nat.le_of_ble_eq_true rfl) ⟨Nat.le_of_ble_eq_true rfl, Nat.le_of_ble_eq_true rfl⟩ ⟨Nat.le_refl _, Nat.le_refl _⟩ dX7_lay_28 ?_
    refine x_bipush (-2) dX7_lay_31 (by decide) ?_
    exact y_iret rfl rfl rfl hf dX7_lay_33
  · rw [if_pos c3] at hf
    refine x_aload_n 0 dX7_lay_9 rfl ?_
    obtain ⟨x6, h7, hf⟩ := bnd hf
    refine x_getR wF_X7_16 (by decide) (by decide) rfl h7 dX7_lay_10 ?_
    refine x_iconst 0 dX7_lay_13 (by decide) ?_
    obtain ⟨x8, h9, hf⟩ := bnd hf
    refine x_iald h9 dX7_lay_14 ?_
    refine x_if_eq 27 dX7_lay_15 rfl (fun c10 => ?_) (fun c10 => ?_)
    · rw [if_pos c10] at hf
      refine x_aload_n 0 dX7_lay_27 rfl ?_
      obtain ⟨q11, h12, hf⟩ := bnd hf
      refine x_callVv (rest := []) [] (tX7_lets a  q1.2 h12) wY_X7_lets wI_X7_lets wS_X7_lets wL_X7_118 (grd_p h12) (by decide) rfl rfl (Nat.le_of_ble_eq_true rfl) ⟨Nat.le_of_ble_eq_true rfl, Nat.le_of_ble_eq_true rfl⟩ ⟨Nat.le_refl _, Nat.le_refl _⟩ dX7_lay_28 ?_
      refine x_bipush (-2) dX7_lay_31 (by decide) ?_
      exact y_iret rfl rfl rfl hf dX7_lay_33
    · rw [if_neg c10] at hf
      refine x_aload_n 0 dX7_lay_18 rfl ?_
      obtain ⟨x13, h14, hf⟩ := bnd hf
      refine x_getR wF_X7_16 (by decide) (by decide) rfl h14 dX7_lay_19 ?_
      refine x_iconst 1 dX7_lay_22 (by decide) ?_
      obtain ⟨x15, h16, hf⟩ := bnd hf
      refine x_iald h16 dX7_lay_23 ?_
      refine x_if_ne 34 dX7_lay_24 rfl (fun c17 => ?_) (fun c17 => ?_)
      · rw [if_neg c17] at hf
        refine x_iconst 0 dX7_lay_34 (by decide) ?_
        refine x_istore_n [1, 0] dX7_lay_35 (by decide) (lv' := [(0, .ref (gB G + a)), (1, .int 0)]) rfl ?_
        exact tX7_lay_36  FU a 0 q1.2 hf
      · rw [if_pos c17] at hf
        refine x_aload_n 0 dX7_lay_27 rfl ?_
        obtain ⟨q37, h38, hf⟩ := bnd hf
        refine x_callVv (rest := []) [] (tX7_lets a  q1.2 h38) wY_X7_lets wI_X7_lets wS_X7_lets wL_X7_118 (grd_p h38) (by decide) rfl rfl (Nat.le_of_ble_eq_true rfl) ⟨Nat.le_of_ble_eq_true rfl, Nat.le_of_ble_eq_true rfl⟩ ⟨Nat.le_refl _, Nat.le_refl _⟩ dX7_lay_28 ?_
        refine x_bipush (-2) dX7_lay_31 (by decide) ?_
        exact y_iret rfl rfl rfl hf dX7_lay_33
abbrev LX7_plot (G : Gm) (p : Program) (l : Launch) (e : Env) (s : State) (m : MethodId) (args : Array Value) (below : List Frame) (meth : Method) (c : Code) (r : Int32 × Mu) (pc : Nat) (lv : List (Nat × Value)) (st : List Value) (μ : Mu) : Prop := Lt G p l e { frames := 2, cells := 0, slots := 0, locals := 40 * (2) } s m args below meth c cX7_plot 3 RX7 (some .int) "plot" (MQ below (Qm G (some (.int r.1)) r.2 0) args s 0 0 (fA G)) 0 0 pc lv st μ
def fX7_plot (a : Nat) (u1 : Int32) (u2 : Int32) (μ : Mu) : Option (Int32 × Mu) := grd (isO 7 a μ) ((fX7_isPlot a u1 μ).bind fun q1 =>
    (if q1.1 = 0 then
    some ((-1), q1.2)
    else
    (if u2 = 0 then
    (gR 7 a 4 q1.2).bind fun x5 =>
    (aI 8 x5 (2 + u1) q1.2).bind fun x7 =>
    some (x7, q1.2)
    else if u2 = 1 then
    (gR 7 a 4 q1.2).bind fun x10 =>
    (aI 8 x10 (2 + u1) q1.2).bind fun x12 =>
    (fX7_allNeeds a u1 0 q1.2).bind fun q14 =>
    some (x12 - q14.1, q14.2)
    else if u2 = 2 then
    (fX7_manyIn a u1 q1.2).bind fun q17 =>
    some (q17.1, q17.2)
    else if u2 = 3 then
    (fX7_topOf a u1 q1.2).bind fun q20 =>
    some (q20.1, q20.2)
    else some ((-1), q1.2))))
set_option maxRecDepth 20000 in
theorem tX7_plot {G : Gm} {l : Launch} {r : Int32 × Mu} (a : Nat) (u1 : Int32) (u2 : Int32) (μ : Mu) (hf : fX7_plot a u1 u2 μ = some r) : Mt G l yX7_plot cX7_plot 3 (some .int) (2) 0 0 [.ref (gB G + a), .int u1, .int u2] μ (some (.int r.1)) r.2 := by
  rw [fX7_plot] at hf
  have hf := grd_v hf
  refine Mt.of (by decide) (Nat.le_of_ble_eq_true rfl) (fun p e s m args below meth c => ?_)
  show LX7_plot G p l e s m args below meth c r 0 [(0, .ref (gB G + a)), (1, .int u1), (2, .int u2)] [] μ
  refine x_aload_n 0 dX7_plot_0 rfl ?_
  refine x_iload_n 1 dX7_plot_1 rfl ?_
  obtain ⟨q1, h2, hf⟩ := bnd hf
  refine x_callVi (rest := []) [.int u1] (tX7_isPlot a u1 μ h2) wY_X7_isPlot wI_X7_isPlot wS_X7_isPlot wL_X7_130 (grd_p h2) (by decide) rfl rfl (Nat.le_of_ble_eq_true rfl) ⟨Nat.le_of_ble_eq_true rfl, Nat.le_of_ble_eq_true rfl⟩ ⟨Nat.le_refl _, Nat.le_refl _⟩ dX7_plot_2 ?_
  refine x_if_ne 10 dX7_plot_5 rfl (fun c3 => ?_) (fun c3 => ?_)
  · rw [if_neg c3] at hf
    refine x_iload_n 2 dX7_plot_10 rfl ?_
    by_cases c4 : u2 = 0
    · rw [if_pos c4] at hf
      refine x_tableIn 40 dX7_plot_11 (by rw [c4]; decide) (by rw [c4]; decide) (by rw [c4]; rfl) rfl ?_
      refine x_aload_n 0 dX7_plot_40 rfl ?_
      obtain ⟨x5, h6, hf⟩ := bnd hf
      refine x_getR wF_X7_19 (by decide) (by decide) rfl h6 dX7_plot_41 ?_
      refine x_iconst 2 dX7_plot_44 (by decide) ?_
      refine x_iload_n 1 dX7_plot_45 rfl ?_
      refine x_iadd dX7_plot_46 ?_
      obtain ⟨x7, h8, hf⟩ := bnd hf
      refine x_iald h8 dX7_plot_47 ?_
      exact y_iret rfl rfl rfl hf dX7_plot_48
    rw [if_neg c4] at hf
    by_cases c9 : u2 = 1
    · rw [if_pos c9] at hf
      refine x_tableIn 49 dX7_plot_11 (by rw [c9]; decide) (by rw [c9]; decide) (by rw [c9]; rfl) rfl ?_
      refine x_aload_n 0 dX7_plot_49 rfl ?_
      obtain ⟨x10, h11, hf⟩ := bnd hf
      refine x_getR wF_X7_19 (by decide) (by decide) rfl h11 dX7_plot_50 ?_
      refine x_iconst 2 dX7_plot_53 (by decide) ?_
      refine x_iload_n 1 dX7_plot_54 rfl ?_
      refine x_iadd dX7_plot_55 ?_
      obtain ⟨x12, h13, hf⟩ := bnd hf
      refine x_iald h13 dX7_plot_56 ?_
      refine x_aload_n 0 dX7_plot_57 rfl ?_
      refine x_iload_n 1 dX7_plot_58 rfl ?_
      refine x_iconst 0 dX7_plot_59 (by decide) ?_
      obtain ⟨q14, h15, hf⟩ := bnd hf
      refine x_callVi (rest := [.int x12]) [.int u1, .int 0] (tX7_allNeeds a u1 0 q1.2 h15) wY_X7_allNeeds wI_X7_allNeeds wS_X7_allNeeds wL_X7_78 (grd_p h15) (by decide) rfl rfl (Nat.le_of_ble_eq_true rfl) ⟨Nat.le_of_ble_eq_true rfl, Nat.le_of_ble_eq_true rfl⟩ ⟨Nat.le_refl _, Nat.le_refl _⟩ dX7_plot_60 ?_
      refine x_isub dX7_plot_63 ?_
      exact y_iret rfl rfl rfl hf dX7_plot_64
    rw [if_neg c9] at hf
    by_cases c16 : u2 = 2
    · rw [if_pos c16] at hf
      refine x_tableIn 65 dX7_plot_11 (by rw [c16]; decide) (by rw [c16]; decide) (by rw [c16]; rfl) rfl ?_
      refine x_aload_n 0 dX7_plot_65 rfl ?_
      refine x_iload_n 1 dX7_plot_66 rfl ?_
      obtain ⟨q17, h18, hf⟩ := bnd hf
      refine x_callVi (rest := []) [.int u1] (tX7_manyIn a u1 q1.2 h18) wY_X7_manyIn wI_X7_manyIn wS_X7_manyIn wL_X7_60 (grd_p h18) (by decide) rfl rfl (Nat.le_of_ble_eq_true rfl) ⟨Nat.le_of_ble_eq_true rfl, Nat.le_of_ble_eq_true rfl⟩ ⟨Nat.le_refl _, Nat.le_refl _⟩ dX7_plot_67 ?_
      exact y_iret rfl rfl rfl hf dX7_plot_70
    rw [if_neg c16] at hf
    by_cases c19 : u2 = 3
    · rw [if_pos c19] at hf
      refine x_tableIn 71 dX7_plot_11 (by rw [c19]; decide) (by rw [c19]; decide) (by rw [c19]; rfl) rfl ?_
      refine x_aload_n 0 dX7_plot_71 rfl ?_
      refine x_iload_n 1 dX7_plot_72 rfl ?_
      obtain ⟨q20, h21, hf⟩ := bnd hf
      refine x_callVi (rest := []) [.int u1] (tX7_topOf a u1 q1.2 h21) wY_X7_topOf wI_X7_topOf wS_X7_topOf wL_X7_75 (grd_p h21) (by decide) rfl rfl (Nat.le_of_ble_eq_true rfl) ⟨Nat.le_of_ble_eq_true rfl, Nat.le_of_ble_eq_true rfl⟩ ⟨Nat.le_refl _, Nat.le_refl _⟩ dX7_plot_73 ?_
      exact y_iret rfl rfl rfl hf dX7_plot_76
    rw [if_neg c19] at hf
    refine x_tableOut 77 dX7_plot_11 (tsw_out 4 (by decide) (fun j hj => ?_)) rfl ?_
    · match j, hj with
      | 0, _ => exact c4
      | 1, _ => exact c9
      | 2, _ => exact c16
      | 3, _ => exact c19
    · refine x_iconst (-1) dX7_plot_77 (by decide) ?_
      exact y_iret rfl rfl rfl hf dX7_plot_78
  · rw [if_pos c3] at hf
    refine x_iconst (-1) dX7_plot_8 (by decide) ?_
    exact y_iret rfl rfl rfl hf dX7_plot_9
abbrev LX7_hour (G : Gm) (p : Program) (l : Launch) (e : Env) (s : State) (m : MethodId) (args : Array Value) (below : List Frame) (meth : Method) (c : Code) (r : Int32 × Mu) (pc : Nat) (lv : List (Nat × Value)) (st : List Value) (μ : Mu) : Prop := Lt G p l e { frames := 2, cells := 0, slots := 0, locals := 40 * (2) } s m args below meth c cX7_hour 4 RX7 (some .int) "hour" (MQ below (Qm G (some (.int r.1)) r.2 0) args s 0 0 (fA G)) 0 0 pc lv st μ
def fX7_hour (a : Nat) (u1 : Int32) (u2 : Int32) (μ : Mu) : Option (Int32 × Mu) := grd (isO 7 a μ) ((fX7_isHour a u1 μ).bind fun q1 =>
    (if q1.1 = 0 then
    some ((-1), q1.2)
    else
    (fX7_in u2 0 4 q1.2).bind fun q4 =>
    (if q4.1 = 0 then
    some ((-1), q4.2)
    else
    (gR 7 a 4 q4.2).bind fun x7 =>
    (aI 8 x7 (7 + u1) q4.2).bind fun x9 =>
    (if u2 = 0 then
    (gR 7 a 2 q4.2).bind fun x12 =>
    (aI 8 x12 (2 + u1) q4.2).bind fun x14 =>
    some (x14, q4.2)
    else if u2 = 1 then
    (gR 7 a 2 q4.2).bind fun x17 =>
    (aI 8 x17 (9 + u1) q4.2).bind fun x19 =>
    some (x19, q4.2)
    else if u2 = 2 then
    (if x9 = (-1) then
    some ((-4), q4.2)
    else
    some (x9, q4.2))
    else if u2 = 3 then
    (if x9 = (-1) then
    some ((-4), q4.2)
    else
    (gR 7 a 4 q4.2).bind fun x25 =>
    (aI 8 x25 (14 + u1) q4.2).bind fun x27 =>
    some (x27, q4.2))
    else (if x9 = (-1) then
    some ((-4), q4.2)
    else
    (gR 7 a 2 q4.2).bind fun x30 =>
    (aI 8 x30 (2 + u1) q4.2).bind fun x32 =>
    (gR 7 a 4 q4.2).bind fun x34 =>
    (aI 8 x34 (14 + u1) q4.2).bind fun x36 =>
    (fX7_lying a x9 (x36 - 1) q4.2).bind fun q38 =>
    (fX7_kindOf a q38.1 0 q38.2).bind fun q40 =>
    (fX7_needs x32 q40.1 q40.2).bind fun q42 =>
    some (q42.1, q42.2))))))
set_option maxRecDepth 20000 in
theorem tX7_hour {G : Gm} {l : Launch} {r : Int32 × Mu} (a : Nat) (u1 : Int32) (u2 : Int32) (μ : Mu) (hf : fX7_hour a u1 u2 μ = some r) : Mt G l yX7_hour cX7_hour 4 (some .int) (2) 0 0 [.ref (gB G + a), .int u1, .int u2] μ (some (.int r.1)) r.2 := by
  rw [fX7_hour] at hf
  have hf := grd_v hf
  refine Mt.of (by decide) (Nat.le_of_ble_eq_true rfl) (fun p e s m args below meth c => ?_)
  show LX7_hour G p l e s m args below meth c r 0 [(0, .ref (gB G + a)), (1, .int u1), (2, .int u2)] [] μ
  refine x_aload_n 0 dX7_hour_0 rfl ?_
  refine x_iload_n 1 dX7_hour_1 rfl ?_
  obtain ⟨q1, h2, hf⟩ := bnd hf
  refine x_callVi (rest := []) [.int u1] (tX7_isHour a u1 μ h2) wY_X7_isHour wI_X7_isHour wS_X7_isHour wL_X7_133 (grd_p h2) (by decide) rfl rfl (Nat.le_of_ble_eq_true rfl) ⟨Nat.le_of_ble_eq_true rfl, Nat.le_of_ble_eq_true rfl⟩ ⟨Nat.le_refl _, Nat.le_refl _⟩ dX7_hour_2 ?_
  refine x_if_eq 17 dX7_hour_5 rfl (fun c3 => ?_) (fun c3 => ?_)
  · rw [if_pos c3] at hf
    refine x_iconst (-1) dX7_hour_17 (by decide) ?_
    exact y_iret rfl rfl rfl hf dX7_hour_18
  · rw [if_neg c3] at hf
    refine x_iload_n 2 dX7_hour_8 rfl ?_
    refine x_iconst 0 dX7_hour_9 (by decide) ?_
    refine x_iconst 4 dX7_hour_10 (by decide) ?_
    obtain ⟨q4, h5, hf⟩ := bnd hf
    refine x_callSi (rest := []) [.int u2, .int 0, .int 4] (tX7_in u2 0 4 q1.2 h5) wY_X7_in wT_X7_in wL_X7_56 rfl (Nat.le_of_ble_eq_true rfl) ⟨Nat.le_of_ble_eq_true rfl, Nat.le_of_ble_eq_true rfl⟩ ⟨Nat.le_refl _, Nat.le_refl _⟩ dX7_hour_11 ?_
    refine x_if_ne 19 dX7_hour_14 rfl (fun c6 => ?_) (fun c6 => ?_)
    · rw [if_neg c6] at hf
      refine x_aload_n 0 dX7_hour_19 rfl ?_
      obtain ⟨x7, h8, hf⟩ := bnd hf
      refine x_getR wF_X7_19 (by decide) (by decide) rfl h8 dX7_hour_20 ?_
      refine x_bipush 7 dX7_hour_23 (by decide) ?_
      refine x_iload_n 1 dX7_hour_25 rfl ?_
      refine x_iadd dX7_hour_26 ?_
      obtain ⟨x9, h10, hf⟩ := bnd hf
      refine x_iald h10 dX7_hour_27 ?_
      refine x_istore_n [1, 2, 3, 0] dX7_hour_28 (by decide) (lv' := [(0, .ref (gB G + a)), (1, .int u1), (2, .int u2), (3, .int x9)]) rfl ?_
      refine x_iload_n 2 dX7_hour_29 rfl ?_
      by_cases c11 : u2 = 0
      · rw [if_pos c11] at hf
        refine x_tableIn 60 dX7_hour_30 (by rw [c11]; decide) (by rw [c11]; decide) (by rw [c11]; rfl) rfl ?_
        refine x_aload_n 0 dX7_hour_60 rfl ?_
        obtain ⟨x12, h13, hf⟩ := bnd hf
        refine x_getR wF_X7_13 (by decide) (by decide) rfl h13 dX7_hour_61 ?_
        refine x_iconst 2 dX7_hour_64 (by decide) ?_
        refine x_iload_n 1 dX7_hour_65 rfl ?_
        refine x_iadd dX7_hour_66 ?_
        obtain ⟨x14, h15, hf⟩ := bnd hf
        refine x_iald h15 dX7_hour_67 ?_
        exact y_iret rfl rfl rfl hf dX7_hour_68
      rw [if_neg c11] at hf
      by_cases c16 : u2 = 1
      · rw [if_pos c16] at hf
        refine x_tableIn 69 dX7_hour_30 (by rw [c16]; decide) (by rw [c16]; decide) (by rw [c16]; rfl) rfl ?_
        refine x_aload_n 0 dX7_hour_69 rfl ?_
        obtain ⟨x17, h18, hf⟩ := bnd hf
        refine x_getR wF_X7_13 (by decide) (by decide) rfl h18 dX7_hour_70 ?_
        refine x_bipush 9 dX7_hour_73 (by decide) ?_
        refine x_iload_n 1 dX7_hour_75 rfl ?_
        refine x_iadd dX7_hour_76 ?_
        obtain ⟨x19, h20, hf⟩ := bnd hf
        refine x_iald h20 dX7_hour_77 ?_
        exact y_iret rfl rfl rfl hf dX7_hour_78
      rw [if_neg c16] at hf
      by_cases c21 : u2 = 2
      · rw [if_pos c21] at hf
        refine x_tableIn 79 dX7_hour_30 (by rw [c21]; decide) (by rw [c21]; decide) (by rw [c21]; rfl) rfl ?_
        refine x_iload_n 3 dX7_hour_79 rfl ?_
        refine x_iconst (-1) dX7_hour_80 (by decide) ?_
        refine x_icmp_ne 89 dX7_hour_81 rfl (fun c22 => ?_) (fun c22 => ?_)
        · rw [if_neg c22] at hf
          refine x_iload_n 3 dX7_hour_89 rfl ?_
          exact y_iret rfl rfl rfl hf dX7_hour_90
        · rw [if_pos c22] at hf
          refine x_bipush (-4) dX7_hour_84 (by decide) ?_
          refine x_goto 90 dX7_hour_86 rfl ?_
          exact y_iret rfl rfl rfl hf dX7_hour_90
      rw [if_neg c21] at hf
      by_cases c23 : u2 = 3
      · rw [if_pos c23] at hf
        refine x_tableIn 91 dX7_hour_30 (by rw [c23]; decide) (by rw [c23]; decide) (by rw [c23]; rfl) rfl ?_
        refine x_iload_n 3 dX7_hour_91 rfl ?_
        refine x_iconst (-1) dX7_hour_92 (by decide) ?_
        refine x_icmp_ne 101 dX7_hour_93 rfl (fun c24 => ?_) (fun c24 => ?_)
        · rw [if_neg c24] at hf
          refine x_aload_n 0 dX7_hour_101 rfl ?_
          obtain ⟨x25, h26, hf⟩ := bnd hf
          refine x_getR wF_X7_19 (by decide) (by decide) rfl h26 dX7_hour_102 ?_
          refine x_bipush 14 dX7_hour_105 (by decide) ?_
          refine x_iload_n 1 dX7_hour_107 rfl ?_
          refine x_iadd dX7_hour_108 ?_
          obtain ⟨x27, h28, hf⟩ := bnd hf
          refine x_iald h28 dX7_hour_109 ?_
          exact y_iret rfl rfl rfl hf dX7_hour_110
        · rw [if_pos c24] at hf
          refine x_bipush (-4) dX7_hour_96 (by decide) ?_
          refine x_goto 110 dX7_hour_98 rfl ?_
          exact y_iret rfl rfl rfl hf dX7_hour_110
      rw [if_neg c23] at hf
      refine x_tableOut 111 dX7_hour_30 (tsw_out 4 (by decide) (fun j hj => ?_)) rfl ?_
      · match j, hj with
        | 0, _ => exact c11
        | 1, _ => exact c16
        | 2, _ => exact c21
        | 3, _ => exact c23
      · refine x_iload_n 3 dX7_hour_111 rfl ?_
        refine x_iconst (-1) dX7_hour_112 (by decide) ?_
        refine x_icmp_ne 121 dX7_hour_113 rfl (fun c29 => ?_) (fun c29 => ?_)
        · rw [if_neg c29] at hf
          refine x_aload_n 0 dX7_hour_121 rfl ?_
          obtain ⟨x30, h31, hf⟩ := bnd hf
          refine x_getR wF_X7_13 (by decide) (by decide) rfl h31 dX7_hour_122 ?_
          refine x_iconst 2 dX7_hour_125 (by decide) ?_
          refine x_iload_n 1 dX7_hour_126 rfl ?_
          refine x_iadd dX7_hour_127 ?_
          obtain ⟨x32, h33, hf⟩ := bnd hf
          refine x_iald h33 dX7_hour_128 ?_
          refine x_aload_n 0 dX7_hour_129 rfl ?_
          refine x_aload_n 0 dX7_hour_130 rfl ?_
          refine x_iload_n 3 dX7_hour_131 rfl ?_
          refine x_aload_n 0 dX7_hour_132 rfl ?_
          obtain ⟨x34, h35, hf⟩ := bnd hf
          refine x_getR wF_X7_19 (by decide) (by decide) rfl h35 dX7_hour_133 ?_
          refine x_bipush 14 dX7_hour_136 (by decide) ?_
          refine x_iload_n 1 dX7_hour_138 rfl ?_
          refine x_iadd dX7_hour_139 ?_
          obtain ⟨x36, h37, hf⟩ := bnd hf
          refine x_iald h37 dX7_hour_140 ?_
          refine x_iconst 1 dX7_hour_141 (by decide) ?_
          refine x_isub dX7_hour_142 ?_
          obtain ⟨q38, h39, hf⟩ := bnd hf
          refine x_callVi (rest := [.ref (gB G + a), .int x32]) [.int x9, .int (x36 - 1)] (tX7_lying a x9 (x36 - 1) q4.2 h39) wY_X7_lying wI_X7_lying wS_X7_lying wL_X7_64 (grd_p h39) (by decide) rfl rfl (Nat.le_of_ble_eq_true rfl) ⟨Nat.le_of_ble_eq_true rfl, Nat.le_of_ble_eq_true rfl⟩ ⟨Nat.le_refl _, Nat.le_refl _⟩ dX7_hour_143 ?_
          refine x_iconst 0 dX7_hour_146 (by decide) ?_
          obtain ⟨q40, h41, hf⟩ := bnd hf
          refine x_callVi (rest := [.int x32]) [.int q38.1, .int 0] (tX7_kindOf a q38.1 0 q38.2 h41) wY_X7_kindOf wI_X7_kindOf wS_X7_kindOf wL_X7_68 (grd_p h41) (by decide) rfl rfl (Nat.le_of_ble_eq_true rfl) ⟨Nat.le_of_ble_eq_true rfl, Nat.le_of_ble_eq_true rfl⟩ ⟨Nat.le_refl _, Nat.le_refl _⟩ dX7_hour_147 ?_
          obtain ⟨q42, h43, hf⟩ := bnd hf
          refine x_callSi (rest := []) [.int x32, .int q40.1] (tX7_needs x32 q40.1 q40.2 h43) wY_X7_needs wT_X7_needs wL_X7_72 rfl (Nat.le_of_ble_eq_true rfl) ⟨Nat.le_of_ble_eq_true rfl, Nat.le_of_ble_eq_true rfl⟩ ⟨Nat.le_refl _, Nat.le_refl _⟩ dX7_hour_150 ?_
          exact y_iret rfl rfl rfl hf dX7_hour_153
        · rw [if_pos c29] at hf
          refine x_bipush (-4) dX7_hour_116 (by decide) ?_
          refine x_goto 153 dX7_hour_118 rfl ?_
          exact y_iret rfl rfl rfl hf dX7_hour_153
    · rw [if_pos c6] at hf
      refine x_iconst (-1) dX7_hour_17 (by decide) ?_
      exact y_iret rfl rfl rfl hf dX7_hour_18
abbrev LX7_fits (G : Gm) (p : Program) (l : Launch) (e : Env) (s : State) (m : MethodId) (args : Array Value) (below : List Frame) (meth : Method) (c : Code) (r : Int32 × Mu) (pc : Nat) (lv : List (Nat × Value)) (st : List Value) (μ : Mu) : Prop := Lt G p l e { frames := 3, cells := 0, slots := 0, locals := 40 * (3) } s m args below meth c cX7_fits 3 RX7 (some .int) "fits" (MQ below (Qm G (some (.int r.1)) r.2 0) args s 0 0 (fA G)) 0 0 pc lv st μ
def fX7_fits (a : Nat) (u1 : Int32) (u2 : Int32) (μ : Mu) : Option (Int32 × Mu) := grd (isO 7 a μ) ((fX7_isHour a u1 μ).bind fun q1 =>
    (if q1.1 = 0 then
    some ((-1), q1.2)
    else
    (fX7_isPlot a u2 q1.2).bind fun q4 =>
    (if q4.1 = 0 then
    some ((-1), q4.2)
    else
    (gR 7 a 4 q4.2).bind fun x7 =>
    (aI 8 x7 (7 + u1) q4.2).bind fun x9 =>
    (if x9 = u2 then
    some (0, q4.2)
    else
    (gR 7 a 2 q4.2).bind fun x12 =>
    (aI 8 x12 (2 + u1) q4.2).bind fun x14 =>
    (fX7_isFit a x14 u2 0 q4.2).bind fun q16 =>
    (if q16.1 = 0 then
    some (0, q16.2)
    else
    some (1, q16.2))))))
set_option maxRecDepth 20000 in
theorem tX7_fits {G : Gm} {l : Launch} {r : Int32 × Mu} (a : Nat) (u1 : Int32) (u2 : Int32) (μ : Mu) (hf : fX7_fits a u1 u2 μ = some r) : Mt G l yX7_fits cX7_fits 3 (some .int) (3) 0 0 [.ref (gB G + a), .int u1, .int u2] μ (some (.int r.1)) r.2 := by
  rw [fX7_fits] at hf
  have hf := grd_v hf
  refine Mt.of (by decide) (Nat.le_of_ble_eq_true rfl) (fun p e s m args below meth c => ?_)
  show LX7_fits G p l e s m args below meth c r 0 [(0, .ref (gB G + a)), (1, .int u1), (2, .int u2)] [] μ
  refine x_aload_n 0 dX7_fits_0 rfl ?_
  refine x_iload_n 1 dX7_fits_1 rfl ?_
  obtain ⟨q1, h2, hf⟩ := bnd hf
  refine x_callVi (rest := []) [.int u1] (tX7_isHour a u1 μ h2) wY_X7_isHour wI_X7_isHour wS_X7_isHour wL_X7_133 (grd_p h2) (by decide) rfl rfl (Nat.le_of_ble_eq_true rfl) ⟨Nat.le_of_ble_eq_true rfl, Nat.le_of_ble_eq_true rfl⟩ ⟨Nat.le_refl _, Nat.le_refl _⟩ dX7_fits_2 ?_
  refine x_if_eq 16 dX7_fits_5 rfl (fun c3 => ?_) (fun c3 => ?_)
  · rw [if_pos c3] at hf
    refine x_iconst (-1) dX7_fits_16 (by decide) ?_
    exact y_iret rfl rfl rfl hf dX7_fits_17
  · rw [if_neg c3] at hf
    refine x_aload_n 0 dX7_fits_8 rfl ?_
    refine x_iload_n 2 dX7_fits_9 rfl ?_
    obtain ⟨q4, h5, hf⟩ := bnd hf
    refine x_callVi (rest := []) [.int u2] (tX7_isPlot a u2 q1.2 h5) wY_X7_isPlot wI_X7_isPlot wS_X7_isPlot wL_X7_130 (grd_p h5) (by decide) rfl rfl (Nat.le_of_ble_eq_true rfl) ⟨Nat.le_of_ble_eq_true rfl, Nat.le_of_ble_eq_true rfl⟩ ⟨Nat.le_refl _, Nat.le_refl _⟩ dX7_fits_10 ?_
    refine x_if_ne 18 dX7_fits_13 rfl (fun c6 => ?_) (fun c6 => ?_)
    · rw [if_neg c6] at hf
      refine x_aload_n 0 dX7_fits_18 rfl ?_
      obtain ⟨x7, h8, hf⟩ := bnd hf
      refine x_getR wF_X7_19 (by decide) (by decide) rfl h8 dX7_fits_19 ?_
      refine x_bipush 7 dX7_fits_22 (by decide) ?_
      refine x_iload_n 1 dX7_fits_24 rfl ?_
      refine x_iadd dX7_fits_25 ?_
      obtain ⟨x9, h10, hf⟩ := bnd hf
      refine x_iald h10 dX7_fits_26 ?_
      refine x_iload_n 2 dX7_fits_27 rfl ?_
      refine x_icmp_eq 52 dX7_fits_28 rfl (fun c11 => ?_) (fun c11 => ?_)
      · rw [if_pos c11] at hf
        refine x_iconst 0 dX7_fits_52 (by decide) ?_
        exact y_iret rfl rfl rfl hf dX7_fits_53
      · rw [if_neg c11] at hf
        refine x_aload_n 0 dX7_fits_31 rfl ?_
        refine x_aload_n 0 dX7_fits_32 rfl ?_
        obtain ⟨x12, h13, hf⟩ := bnd hf
        refine x_getR wF_X7_13 (by decide) (by decide) rfl h13 dX7_fits_33 ?_
        refine x_iconst 2 dX7_fits_36 (by decide) ?_
        refine x_iload_n 1 dX7_fits_37 rfl ?_
        refine x_iadd dX7_fits_38 ?_
        obtain ⟨x14, h15, hf⟩ := bnd hf
        refine x_iald h15 dX7_fits_39 ?_
        refine x_iload_n 2 dX7_fits_40 rfl ?_
        refine x_iconst 0 dX7_fits_41 (by decide) ?_
        obtain ⟨q16, h17, hf⟩ := bnd hf
        refine x_callVi (rest := []) [.int x14, .int u2, .int 0] (tX7_isFit a x14 u2 0 q4.2 h17) wY_X7_isFit wI_X7_isFit wS_X7_isFit wL_X7_103 (grd_p h17) (by decide) rfl rfl (Nat.le_of_ble_eq_true rfl) ⟨Nat.le_of_ble_eq_true rfl, Nat.le_of_ble_eq_true rfl⟩ ⟨Nat.le_refl _, Nat.le_refl _⟩ dX7_fits_42 ?_
        refine x_if_eq 52 dX7_fits_45 rfl (fun c18 => ?_) (fun c18 => ?_)
        · rw [if_pos c18] at hf
          refine x_iconst 0 dX7_fits_52 (by decide) ?_
          exact y_iret rfl rfl rfl hf dX7_fits_53
        · rw [if_neg c18] at hf
          refine x_iconst 1 dX7_fits_48 (by decide) ?_
          refine x_goto 53 dX7_fits_49 rfl ?_
          exact y_iret rfl rfl rfl hf dX7_fits_53
    · rw [if_pos c6] at hf
      refine x_iconst (-1) dX7_fits_16 (by decide) ?_
      exact y_iret rfl rfl rfl hf dX7_fits_17
abbrev LX7_isFrost (G : Gm) (p : Program) (l : Launch) (e : Env) (s : State) (m : MethodId) (args : Array Value) (below : List Frame) (meth : Method) (c : Code) (r : Int32 × Mu) (pc : Nat) (lv : List (Nat × Value)) (st : List Value) (μ : Mu) : Prop := Lt G p l e { frames := 0, cells := 0, slots := 0, locals := 40 * (0) } s m args below meth c cX7_isFrost 1 RX7 (some .boolean) "isFrost" (MQ below (Qm G (some (.int r.1)) r.2 0) args s 0 0 (fA G)) 0 0 pc lv st μ
def fX7_isFrost (a : Nat) (μ : Mu) : Option (Int32 × Mu) := grd (isO 7 a μ) ((gR 7 a 4 μ).bind fun x1 =>
    (aI 8 x1 0 μ).bind fun x3 =>
    (if 40 ≤ x3 then
    some (0, μ)
    else
    (gR 7 a 2 μ).bind fun x6 =>
    (gR 7 a 4 μ).bind fun x8 =>
    (aI 8 x8 0 μ).bind fun x10 =>
    (aI 8 x6 (16 + x10) μ).bind fun x12 =>
    (if x12 = 1 then
    some (1, μ)
    else
    some (0, μ))))
set_option maxRecDepth 20000 in
theorem tX7_isFrost {G : Gm} {l : Launch} {r : Int32 × Mu} (a : Nat) (μ : Mu) (hf : fX7_isFrost a μ = some r) : Mt G l yX7_isFrost cX7_isFrost 1 (some .boolean) (0) 0 0 [.ref (gB G + a)] μ (some (.int r.1)) r.2 := by
  rw [fX7_isFrost] at hf
  have hf := grd_v hf
  refine Mt.of (by decide) (Nat.le_of_ble_eq_true rfl) (fun p e s m args below meth c => ?_)
  show LX7_isFrost G p l e s m args below meth c r 0 [(0, .ref (gB G + a))] [] μ
  refine x_aload_n 0 dX7_isFrost_0 rfl ?_
  obtain ⟨x1, h2, hf⟩ := bnd hf
  refine x_getR wF_X7_19 (by decide) (by decide) rfl h2 dX7_isFrost_1 ?_
  refine x_iconst 0 dX7_isFrost_4 (by decide) ?_
  obtain ⟨x3, h4, hf⟩ := bnd hf
  refine x_iald h4 dX7_isFrost_5 ?_
  refine x_bipush 40 dX7_isFrost_6 (by decide) ?_
  refine x_icmp_ge 33 dX7_isFrost_8 rfl (fun c5 => ?_) (fun c5 => ?_)
  · rw [if_pos c5] at hf
    refine x_iconst 0 dX7_isFrost_33 (by decide) ?_
    exact y_zret rfl (by decide) rfl rfl hf dX7_isFrost_34
  · rw [if_neg c5] at hf
    refine x_aload_n 0 dX7_isFrost_11 rfl ?_
    obtain ⟨x6, h7, hf⟩ := bnd hf
    refine x_getR wF_X7_13 (by decide) (by decide) rfl h7 dX7_isFrost_12 ?_
    refine x_bipush 16 dX7_isFrost_15 (by decide) ?_
    refine x_aload_n 0 dX7_isFrost_17 rfl ?_
    obtain ⟨x8, h9, hf⟩ := bnd hf
    refine x_getR wF_X7_19 (by decide) (by decide) rfl h9 dX7_isFrost_18 ?_
    refine x_iconst 0 dX7_isFrost_21 (by decide) ?_
    obtain ⟨x10, h11, hf⟩ := bnd hf
    refine x_iald h11 dX7_isFrost_22 ?_
    refine x_iadd dX7_isFrost_23 ?_
    obtain ⟨x12, h13, hf⟩ := bnd hf
    refine x_iald h13 dX7_isFrost_24 ?_
    refine x_iconst 1 dX7_isFrost_25 (by decide) ?_
    refine x_icmp_ne 33 dX7_isFrost_26 rfl (fun c14 => ?_) (fun c14 => ?_)
    · rw [if_neg c14] at hf
      refine x_iconst 0 dX7_isFrost_33 (by decide) ?_
      exact y_zret rfl (by decide) rfl rfl hf dX7_isFrost_34
    · rw [if_pos c14] at hf
      refine x_iconst 1 dX7_isFrost_29 (by decide) ?_
      refine x_goto 34 dX7_isFrost_30 rfl ?_
      exact y_zret rfl (by decide) rfl rfl hf dX7_isFrost_34
abbrev LX7_passes (G : Gm) (p : Program) (l : Launch) (e : Env) (s : State) (m : MethodId) (args : Array Value) (below : List Frame) (meth : Method) (c : Code) (r : Int32 × Mu) (pc : Nat) (lv : List (Nat × Value)) (st : List Value) (μ : Mu) : Prop := Lt G p l e { frames := 2, cells := 0, slots := 0, locals := 40 * (2) } s m args below meth c cX7_passes 5 RX7 (some .boolean) "passes" (MQ below (Qm G (some (.int r.1)) r.2 0) args s 0 0 (fA G)) 0 0 pc lv st μ
def fX7_passes_56 (v0 : Nat) (v4 : Int32) (μ : Mu) : Option (Int32 × Mu) := (gR 7 v0 4 μ).bind fun x17 =>
    (aI 8 x17 0 μ).bind fun x19 =>
    (bI 8 x17 0 (x19 + 1) μ).bind fun m21 =>
    grd (v4 = 0 ∨ v4 = 1) (some (v4, m21))
set_option maxRecDepth 20000 in
theorem tX7_passes_56 {G : Gm} {p : Program} {l : Launch} {e : Env} {s : State} {m : MethodId} {args : Array Value} {below : List Frame} {meth : Method} {c : Code} {r : Int32 × Mu} (v0 : Nat) (v4 : Int32) (μ : Mu) (hf : fX7_passes_56 v0 v4 μ = some r) : LX7_passes G p l e s m args below meth c r 56 [(0, .ref (gB G + v0)), (4, .int v4)] [] μ := by
  rw [fX7_passes_56] at hf
  refine x_aload_n 0 dX7_passes_56 rfl ?_
  obtain ⟨x17, h18, hf⟩ := bnd hf
  refine x_getR wF_X7_19 (by decide) (by decide) rfl h18 dX7_passes_57 ?_
  refine x_iconst 0 dX7_passes_60 (by decide) ?_
  refine x_dup2 dX7_passes_61 rfl rfl ?_
  obtain ⟨x19, h20, hf⟩ := bnd hf
  refine x_iald h20 dX7_passes_62 ?_
  refine x_iconst 1 dX7_passes_63 (by decide) ?_
  refine x_iadd dX7_passes_64 ?_
  obtain ⟨m21, h22, hf⟩ := bnd hf
  refine x_iast h22 dX7_passes_65 ?_
  refine x_iload 1 dX7_passes_66 rfl ?_
  exact y_zret rfl (grd_p hf) rfl rfl (grd_v hf) dX7_passes_68
def fX7_passes_43 (v0 : Nat) (v2 : Int32) (s0 : Int32) (μ : Mu) : Option (Int32 × Mu) := (if s0 = 0 then
    fX7_passes_56  v0 s0 μ
    else
    (fX7_takes v0 v2 μ).bind fun q23 =>
    fX7_passes_56  v0 s0 q23.2)
set_option maxRecDepth 20000 in
theorem tX7_passes_43 {G : Gm} {p : Program} {l : Launch} {e : Env} {s : State} {m : MethodId} {args : Array Value} {below : List Frame} {meth : Method} {c : Code} {r : Int32 × Mu} (v0 : Nat) (v2 : Int32) (s0 : Int32) (μ : Mu) (hf : fX7_passes_43 v0 v2 s0 μ = some r) : LX7_passes G p l e s m args below meth c r 43 [(0, .ref (gB G + v0)), (2, .int v2)] [.int s0] μ := by
  rw [fX7_passes_43] at hf
  refine x_istore [1, 2, 0] dX7_passes_43 (by decide) (lv' := [(0, .ref (gB G + v0)), (2, .int v2), (4, .int s0)]) rfl ?_
  refine x_iload 2 dX7_passes_45 rfl ?_
  refine x_if_eq 56 dX7_passes_47 rfl (fun c16 => ?_) (fun c16 => ?_)
  · rw [if_pos c16] at hf
    refine x_sub [0, 2] (lv' := [(0, .ref (gB G + v0)), (4, .int s0)]) rfl ?_
    exact tX7_passes_56  v0 s0 μ hf
  · rw [if_neg c16] at hf
    refine x_aload_n 0 dX7_passes_50 rfl ?_
    refine x_iload_n 1 dX7_passes_51 rfl ?_
    obtain ⟨q23, h24, hf⟩ := bnd hf
    refine x_callVi (rest := []) [.int v2] (tX7_takes v0 v2 μ h24) wY_X7_takes wI_X7_takes wS_X7_takes wL_X7_136 (grd_p h24) (by decide) rfl rfl (Nat.le_of_ble_eq_true rfl) ⟨Nat.le_of_ble_eq_true rfl, Nat.le_of_ble_eq_true rfl⟩ ⟨Nat.le_refl _, Nat.le_refl _⟩ dX7_passes_52 ?_
    refine x_pop dX7_passes_55 rfl ?_
    refine x_sub [0, 2] (lv' := [(0, .ref (gB G + v0)), (4, .int s0)]) rfl ?_
    exact tX7_passes_56  v0 s0 q23.2 hf
def fX7_passes (a : Nat) (u1 : Int32) (μ : Mu) : Option (Int32 × Mu) := grd (isO 7 a μ) ((gR 7 a 4 μ).bind fun x1 =>
    (aI 8 x1 0 μ).bind fun x3 =>
    (gR 7 a 2 μ).bind fun x5 =>
    (aI 8 x5 0 μ).bind fun x7 =>
    (rmd x3 x7).bind fun x9 =>
    (fX7_topOf a x9 μ).bind fun q11 =>
    (fX7_kindOf a q11.1 0 q11.2).bind fun q13 =>
    (if u1 = 0 then
    fX7_passes_43  a q11.1 0 q13.2
    else
    (if q13.1 = 0 then
    fX7_passes_43  a q11.1 1 q13.2
    else
    (if q13.1 = 2 then
    fX7_passes_43  a q11.1 1 q13.2
    else
    fX7_passes_43  a q11.1 0 q13.2))))
set_option maxRecDepth 20000 in
theorem tX7_passes {G : Gm} {l : Launch} {r : Int32 × Mu} (a : Nat) (u1 : Int32) (μ : Mu) (hf : fX7_passes a u1 μ = some r) : Mt G l yX7_passes cX7_passes 5 (some .boolean) (2) 0 0 [.ref (gB G + a), .int u1] μ (some (.int r.1)) r.2 := by
  rw [fX7_passes] at hf
  have hf := grd_v hf
  refine Mt.of (by decide) (Nat.le_of_ble_eq_true rfl) (fun p e s m args below meth c => ?_)
  show LX7_passes G p l e s m args below meth c r 0 [(0, .ref (gB G + a)), (1, .int u1)] [] μ
  refine x_aload_n 0 dX7_passes_0 rfl ?_
  refine x_aload_n 0 dX7_passes_1 rfl ?_
  obtain ⟨x1, h2, hf⟩ := bnd hf
  refine x_getR wF_X7_19 (by decide) (by decide) rfl h2 dX7_passes_2 ?_
  refine x_iconst 0 dX7_passes_5 (by decide) ?_
  obtain ⟨x3, h4, hf⟩ := bnd hf
  refine x_iald h4 dX7_passes_6 ?_
  refine x_aload_n 0 dX7_passes_7 rfl ?_
  obtain ⟨x5, h6, hf⟩ := bnd hf
  refine x_getR wF_X7_13 (by decide) (by decide) rfl h6 dX7_passes_8 ?_
  refine x_iconst 0 dX7_passes_11 (by decide) ?_
  obtain ⟨x7, h8, hf⟩ := bnd hf
  refine x_iald h8 dX7_passes_12 ?_
  obtain ⟨x9, h10, hf⟩ := bnd hf
  refine x_irem h10 dX7_passes_13 ?_
  obtain ⟨q11, h12, hf⟩ := bnd hf
  refine x_callVi (rest := []) [.int x9] (tX7_topOf a x9 μ h12) wY_X7_topOf wI_X7_topOf wS_X7_topOf wL_X7_75 (grd_p h12) (by decide) rfl rfl (Nat.le_of_ble_eq_true rfl) ⟨Nat.le_of_ble_eq_true rfl, Nat.le_of_ble_eq_true rfl⟩ ⟨Nat.le_refl _, Nat.le_refl _⟩ dX7_passes_14 ?_
  refine x_istore_n [1, 2, 0] dX7_passes_17 (by decide) (lv' := [(0, .ref (gB G + a)), (1, .int u1), (2, .int q11.1)]) rfl ?_
  refine x_aload_n 0 dX7_passes_18 rfl ?_
  refine x_iload_n 2 dX7_passes_19 rfl ?_
  refine x_iconst 0 dX7_passes_20 (by decide) ?_
  obtain ⟨q13, h14, hf⟩ := bnd hf
  refine x_callVi (rest := []) [.int q11.1, .int 0] (tX7_kindOf a q11.1 0 q11.2 h14) wY_X7_kindOf wI_X7_kindOf wS_X7_kindOf wL_X7_68 (grd_p h14) (by decide) rfl rfl (Nat.le_of_ble_eq_true rfl) ⟨Nat.le_of_ble_eq_true rfl, Nat.le_of_ble_eq_true rfl⟩ ⟨Nat.le_refl _, Nat.le_refl _⟩ dX7_passes_21 ?_
  refine x_istore_n [1, 2, 3, 0] dX7_passes_24 (by decide) (lv' := [(0, .ref (gB G + a)), (1, .int u1), (2, .int q11.1), (3, .int q13.1)]) rfl ?_
  refine x_iload_n 1 dX7_passes_25 rfl ?_
  refine x_if_eq 42 dX7_passes_26 rfl (fun c15 => ?_) (fun c15 => ?_)
  · rw [if_pos c15] at hf
    refine x_iconst 0 dX7_passes_42 (by decide) ?_
    refine x_sub [0, 2] (lv' := [(0, .ref (gB G + a)), (2, .int q11.1)]) rfl ?_
    exact tX7_passes_43  a q11.1 0 q13.2 hf
  · rw [if_neg c15] at hf
    refine x_iload_n 3 dX7_passes_29 rfl ?_
    refine x_if_eq 38 dX7_passes_30 rfl (fun c25 => ?_) (fun c25 => ?_)
    · rw [if_pos c25] at hf
      refine x_iconst 1 dX7_passes_38 (by decide) ?_
      refine x_goto 43 dX7_passes_39 rfl ?_
      refine x_sub [0, 2] (lv' := [(0, .ref (gB G + a)), (2, .int q11.1)]) rfl ?_
      exact tX7_passes_43  a q11.1 1 q13.2 hf
    · rw [if_neg c25] at hf
      refine x_iload_n 3 dX7_passes_33 rfl ?_
      refine x_iconst 2 dX7_passes_34 (by decide) ?_
      refine x_icmp_ne 42 dX7_passes_35 rfl (fun c26 => ?_) (fun c26 => ?_)
      · rw [if_neg c26] at hf
        refine x_iconst 0 dX7_passes_42 (by decide) ?_
        refine x_sub [0, 2] (lv' := [(0, .ref (gB G + a)), (2, .int q11.1)]) rfl ?_
        exact tX7_passes_43  a q11.1 0 q13.2 hf
      · rw [if_pos c26] at hf
        refine x_iconst 1 dX7_passes_38 (by decide) ?_
        refine x_goto 43 dX7_passes_39 rfl ?_
        refine x_sub [0, 2] (lv' := [(0, .ref (gB G + a)), (2, .int q11.1)]) rfl ?_
        exact tX7_passes_43  a q11.1 1 q13.2 hf
abbrev LX7_keeps (G : Gm) (p : Program) (l : Launch) (e : Env) (s : State) (m : MethodId) (args : Array Value) (below : List Frame) (meth : Method) (c : Code) (r : Mu) (pc : Nat) (lv : List (Nat × Value)) (st : List Value) (μ : Mu) : Prop := Lt G p l e { frames := 0, cells := 0, slots := 0, locals := 40 * (0) } s m args below meth c cX7_keeps 2 RX7 none "keeps" (MQ below (Qm G none r 0) args s 0 0 (fA G)) 0 0 pc lv st μ
def fX7_keeps_51 : Nat → Nat → Int32 → Mu → Option (Mu)
  | 0, _, _, _ => none
  | n + 1, v0, v1, μ => (if 21 ≤ v1 then
    (gI 7 v0 6 μ).bind fun x5 =>
    (pI 7 v0 6 (x5 + 1) μ).bind fun m7 =>
    some m7
    else
    (gR 7 v0 5 μ).bind fun x9 =>
    (gI 7 v0 6 μ).bind fun x11 =>
    (gR 7 v0 4 μ).bind fun x13 =>
    (aI 8 x13 v1 μ).bind fun x15 =>
    (bI 8 x9 ((21 * x11) + v1) x15 μ).bind fun m17 =>
    (fX7_keeps_51 n) v0 (v1 + 1) m17)
set_option maxRecDepth 20000 in
theorem tX7_keeps_51 {G : Gm} {p : Program} {l : Launch} {e : Env} {s : State} {m : MethodId} {args : Array Value} {below : List Frame} {meth : Method} {c : Code} {r : Mu} : ∀ (n : Nat) (v0 : Nat) (v1 : Int32) (μ : Mu), fX7_keeps_51 n v0 v1 μ = some r → LX7_keeps G p l e s m args below meth c r 51 [(0, .ref (gB G + v0)), (1, .int v1)] [] μ := by
  intro n
  induction n with
  | zero =>
    intro v0 v1 μ hf
    simp [fX7_keeps_51] at hf
  | succ n ih =>
    intro v0 v1 μ hf
    rw [fX7_keeps_51] at hf
    refine x_iload_n 1 dX7_keeps_51 rfl ?_
    refine x_bipush 21 dX7_keeps_52 (by decide) ?_
    refine x_icmp_ge 83 dX7_keeps_54 rfl (fun c4 => ?_) (fun c4 => ?_)
    · rw [if_pos c4] at hf
      refine x_aload_n 0 dX7_keeps_83 rfl ?_
      refine x_dup dX7_keeps_84 rfl ?_
      obtain ⟨x5, h6, hf⟩ := bnd hf
      refine x_getI wF_X7_121 (by decide) (by decide) rfl h6 dX7_keeps_85 ?_
      refine x_iconst 1 dX7_keeps_88 (by decide) ?_
      refine x_iadd dX7_keeps_89 ?_
      obtain ⟨m7, h8, hf⟩ := bnd hf
      refine x_putI wF_X7_121 (by decide) (by decide) rfl rfl h8 dX7_keeps_90 ?_
      exact y_vret rfl rfl rfl hf dX7_keeps_93
    · rw [if_neg c4] at hf
      refine x_aload_n 0 dX7_keeps_57 rfl ?_
      obtain ⟨x9, h10, hf⟩ := bnd hf
      refine x_getR wF_X7_22 (by decide) (by decide) rfl h10 dX7_keeps_58 ?_
      refine x_bipush 21 dX7_keeps_61 (by decide) ?_
      refine x_aload_n 0 dX7_keeps_63 rfl ?_
      obtain ⟨x11, h12, hf⟩ := bnd hf
      refine x_getI wF_X7_121 (by decide) (by decide) rfl h12 dX7_keeps_64 ?_
      refine x_imul dX7_keeps_67 ?_
      refine x_iload_n 1 dX7_keeps_68 rfl ?_
      refine x_iadd dX7_keeps_69 ?_
      refine x_aload_n 0 dX7_keeps_70 rfl ?_
      obtain ⟨x13, h14, hf⟩ := bnd hf
      refine x_getR wF_X7_19 (by decide) (by decide) rfl h14 dX7_keeps_71 ?_
      refine x_iload_n 1 dX7_keeps_74 rfl ?_
      obtain ⟨x15, h16, hf⟩ := bnd hf
      refine x_iald h16 dX7_keeps_75 ?_
      obtain ⟨m17, h18, hf⟩ := bnd hf
      refine x_iast h18 dX7_keeps_76 ?_
      refine x_iinc 1 (v1 + 1) [1, 0] dX7_keeps_77 rfl rfl (by decide) (lv' := [(0, .ref (gB G + v0)), (1, .int (v1 + 1))]) rfl ?_
      refine x_goto 51 dX7_keeps_80 rfl ?_
      exact ih v0 (v1 + 1) m17 hf
def fX7_keeps_11 : Nat → Nat → Int32 → Mu → Option (Mu)
  | 0, _, _, _ => none
  | n + 1, v0, v1, μ => (if 147 ≤ v1 then
    (gI 7 v0 6 μ).bind fun x20 =>
    (pI 7 v0 6 (x20 - 1) μ).bind fun m22 =>
    fX7_keeps_51  FU v0 0 m22
    else
    (gR 7 v0 5 μ).bind fun x24 =>
    (gR 7 v0 5 μ).bind fun x26 =>
    (aI 8 x26 (v1 + 21) μ).bind fun x28 =>
    (bI 8 x24 v1 x28 μ).bind fun m30 =>
    (fX7_keeps_11 n) v0 (v1 + 1) m30)
set_option maxRecDepth 20000 in
theorem tX7_keeps_11 {G : Gm} {p : Program} {l : Launch} {e : Env} {s : State} {m : MethodId} {args : Array Value} {below : List Frame} {meth : Method} {c : Code} {r : Mu} : ∀ (n : Nat) (v0 : Nat) (v1 : Int32) (μ : Mu), fX7_keeps_11 n v0 v1 μ = some r → LX7_keeps G p l e s m args below meth c r 11 [(0, .ref (gB G + v0)), (1, .int v1)] [] μ := by
  intro n
  induction n with
  | zero =>
    intro v0 v1 μ hf
    simp [fX7_keeps_11] at hf
  | succ n ih =>
    intro v0 v1 μ hf
    rw [fX7_keeps_11] at hf
    refine x_iload_n 1 dX7_keeps_11 rfl ?_
    refine x_sipush 147 dX7_keeps_12 (by decide) ?_
    refine x_icmp_ge 39 dX7_keeps_15 rfl (fun c19 => ?_) (fun c19 => ?_)
    · rw [if_pos c19] at hf
      refine x_aload_n 0 dX7_keeps_39 rfl ?_
      refine x_dup dX7_keeps_40 rfl ?_
      obtain ⟨x20, h21, hf⟩ := bnd hf
      refine x_getI wF_X7_121 (by decide) (by decide) rfl h21 dX7_keeps_41 ?_
      refine x_iconst 1 dX7_keeps_44 (by decide) ?_
      refine x_isub dX7_keeps_45 ?_
      obtain ⟨m22, h23, hf⟩ := bnd hf
      refine x_putI wF_X7_121 (by decide) (by decide) rfl rfl h23 dX7_keeps_46 ?_
      refine x_iconst 0 dX7_keeps_49 (by decide) ?_
      refine x_istore_n [1, 0] dX7_keeps_50 (by decide) (lv' := [(0, .ref (gB G + v0)), (1, .int 0)]) rfl ?_
      exact tX7_keeps_51  FU v0 0 m22 hf
    · rw [if_neg c19] at hf
      refine x_aload_n 0 dX7_keeps_18 rfl ?_
      obtain ⟨x24, h25, hf⟩ := bnd hf
      refine x_getR wF_X7_22 (by decide) (by decide) rfl h25 dX7_keeps_19 ?_
      refine x_iload_n 1 dX7_keeps_22 rfl ?_
      refine x_aload_n 0 dX7_keeps_23 rfl ?_
      obtain ⟨x26, h27, hf⟩ := bnd hf
      refine x_getR wF_X7_22 (by decide) (by decide) rfl h27 dX7_keeps_24 ?_
      refine x_iload_n 1 dX7_keeps_27 rfl ?_
      refine x_bipush 21 dX7_keeps_28 (by decide) ?_
      refine x_iadd dX7_keeps_30 ?_
      obtain ⟨x28, h29, hf⟩ := bnd hf
      refine x_iald h29 dX7_keeps_31 ?_
      obtain ⟨m30, h31, hf⟩ := bnd hf
      refine x_iast h31 dX7_keeps_32 ?_
      refine x_iinc 1 (v1 + 1) [1, 0] dX7_keeps_33 rfl rfl (by decide) (lv' := [(0, .ref (gB G + v0)), (1, .int (v1 + 1))]) rfl ?_
      refine x_goto 11 dX7_keeps_36 rfl ?_
      exact ih v0 (v1 + 1) m30 hf
def fX7_keeps (a : Nat) (μ : Mu) : Option (Mu) := grd (isO 7 a μ) ((gI 7 a 6 μ).bind fun x1 =>
    (if x1 = 8 then
    fX7_keeps_11  FU a 0 μ
    else
    fX7_keeps_51  FU a 0 μ))
set_option maxRecDepth 20000 in
theorem tX7_keeps {G : Gm} {l : Launch} {r : Mu} (a : Nat) (μ : Mu) (hf : fX7_keeps a μ = some r) : Mt G l yX7_keeps cX7_keeps 2 none (0) 0 0 [.ref (gB G + a)] μ none r := by
  rw [fX7_keeps] at hf
  have hf := grd_v hf
  refine Mt.of (by decide) (Nat.le_of_ble_eq_true rfl) (fun p e s m args below meth c => ?_)
  show LX7_keeps G p l e s m args below meth c r 0 [(0, .ref (gB G + a))] [] μ
  refine x_aload_n 0 dX7_keeps_0 rfl ?_
  obtain ⟨x1, h2, hf⟩ := bnd hf
  refine x_getI wF_X7_121 (by decide) (by decide) rfl h2 dX7_keeps_1 ?_
  refine x_bipush 8 dX7_keeps_4 (by decide) ?_
  refine x_icmp_ne 49 dX7_keeps_6 rfl (fun c3 => ?_) (fun c3 => ?_)
  · rw [if_neg c3] at hf
    refine x_iconst 0 dX7_keeps_49 (by decide) ?_
    refine x_istore_n [1, 0] dX7_keeps_50 (by decide) (lv' := [(0, .ref (gB G + a)), (1, .int 0)]) rfl ?_
    exact tX7_keeps_51  FU a 0 μ hf
  · rw [if_pos c3] at hf
    refine x_iconst 0 dX7_keeps_9 (by decide) ?_
    refine x_istore_n [1, 0] dX7_keeps_10 (by decide) (lv' := [(0, .ref (gB G + a)), (1, .int 0)]) rfl ?_
    exact tX7_keeps_11  FU a 0 μ hf
abbrev LX7_pass (G : Gm) (p : Program) (l : Launch) (e : Env) (s : State) (m : MethodId) (args : Array Value) (below : List Frame) (meth : Method) (c : Code) (r : Int32 × Mu) (pc : Nat) (lv : List (Nat × Value)) (st : List Value) (μ : Mu) : Prop := Lt G p l e { frames := 3, cells := 0, slots := 0, locals := 40 * (3) } s m args below meth c cX7_pass 4 RX7 (some .int) "pass" (MQ below (Qm G (some (.int r.1)) r.2 0) args s 0 0 (fA G)) 0 0 pc lv st μ
def fX7_pass_37 : Nat → Nat → Int32 → Int32 → Int32 → Mu → Option (Int32 × Mu)
  | 0, _, _, _, _, _ => none
  | n + 1, v0, v1, v2, v3, μ => (if v1 ≤ v3 then
    some (v2, μ)
    else
    (fX7_passes v0 1 μ).bind fun q12 =>
    (if q12.1 = 0 then
    (fX7_pass_37 n) v0 v1 (v2 + 0) (v3 + 1) q12.2
    else
    (fX7_pass_37 n) v0 v1 (v2 + 1) (v3 + 1) q12.2))
set_option maxRecDepth 20000 in
theorem tX7_pass_37 {G : Gm} {p : Program} {l : Launch} {e : Env} {s : State} {m : MethodId} {args : Array Value} {below : List Frame} {meth : Method} {c : Code} {r : Int32 × Mu} : ∀ (n : Nat) (v0 : Nat) (v1 : Int32) (v2 : Int32) (v3 : Int32) (μ : Mu), fX7_pass_37 n v0 v1 v2 v3 μ = some r → LX7_pass G p l e s m args below meth c r 37 [(0, .ref (gB G + v0)), (1, .int v1), (2, .int v2), (3, .int v3)] [] μ := by
  intro n
  induction n with
  | zero =>
    intro v0 v1 v2 v3 μ hf
    simp [fX7_pass_37] at hf
  | succ n ih =>
    intro v0 v1 v2 v3 μ hf
    rw [fX7_pass_37] at hf
    refine x_iload_n 3 dX7_pass_37 rfl ?_
    refine x_iload_n 1 dX7_pass_38 rfl ?_
    refine x_icmp_ge 64 dX7_pass_39 rfl (fun c11 => ?_) (fun c11 => ?_)
    · rw [if_pos c11] at hf
      refine x_iload_n 2 dX7_pass_64 rfl ?_
      exact y_iret rfl rfl rfl hf dX7_pass_65
    · rw [if_neg c11] at hf
      refine x_iload_n 2 dX7_pass_42 rfl ?_
      refine x_aload_n 0 dX7_pass_43 rfl ?_
      refine x_iconst 1 dX7_pass_44 (by decide) ?_
      obtain ⟨q12, h13, hf⟩ := bnd hf
      refine x_callVi (rest := [.int v2]) [.int 1] (tX7_passes v0 1 μ h13) wY_X7_passes wI_X7_passes wS_X7_passes wL_X7_142 (grd_p h13) (by decide) rfl rfl (Nat.le_of_ble_eq_true rfl) ⟨Nat.le_of_ble_eq_true rfl, Nat.le_of_ble_eq_true rfl⟩ ⟨Nat.le_refl _, Nat.le_refl _⟩ dX7_pass_45 ?_
      refine x_if_eq 55 dX7_pass_48 rfl (fun c14 => ?_) (fun c14 => ?_)
      · rw [if_pos c14] at hf
        refine x_iconst 0 dX7_pass_55 (by decide) ?_
        refine x_iadd dX7_pass_56 ?_
        refine x_istore_n [1, 2, 0, 3] dX7_pass_57 (by decide) (lv' := [(0, .ref (gB G + v0)), (1, .int v1), (2, .int (v2 + 0)), (3, .int v3)]) rfl ?_
        refine x_iinc 3 (v3 + 1) [1, 2, 3, 0] dX7_pass_58 rfl rfl (by decide) (lv' := [(0, .ref (gB G + v0)), (1, .int v1), (2, .int (v2 + 0)), (3, .int (v3 + 1))]) rfl ?_
        refine x_goto 37 dX7_pass_61 rfl ?_
        exact ih v0 v1 (v2 + 0) (v3 + 1) q12.2 hf
      · rw [if_neg c14] at hf
        refine x_iconst 1 dX7_pass_51 (by decide) ?_
        refine x_goto 56 dX7_pass_52 rfl ?_
        refine x_iadd dX7_pass_56 ?_
        refine x_istore_n [1, 2, 0, 3] dX7_pass_57 (by decide) (lv' := [(0, .ref (gB G + v0)), (1, .int v1), (2, .int (v2 + 1)), (3, .int v3)]) rfl ?_
        refine x_iinc 3 (v3 + 1) [1, 2, 3, 0] dX7_pass_58 rfl rfl (by decide) (lv' := [(0, .ref (gB G + v0)), (1, .int v1), (2, .int (v2 + 1)), (3, .int (v3 + 1))]) rfl ?_
        refine x_goto 37 dX7_pass_61 rfl ?_
        exact ih v0 v1 (v2 + 1) (v3 + 1) q12.2 hf
def fX7_pass (a : Nat) (u1 : Int32) (μ : Mu) : Option (Int32 × Mu) := grd (isO 7 a μ) ((fX7_in u1 1 20 μ).bind fun q1 =>
    (if q1.1 = 0 then
    some ((-1), q1.2)
    else
    (gR 7 a 4 q1.2).bind fun x4 =>
    (aI 8 x4 0 q1.2).bind fun x6 =>
    (if (x6 + u1) ≤ 999 then
    (fX7_keeps a  q1.2).bind fun q9 =>
    fX7_pass_37  FU a u1 0 0 q9
    else
    some ((-2), q1.2))))
set_option maxRecDepth 20000 in
theorem tX7_pass {G : Gm} {l : Launch} {r : Int32 × Mu} (a : Nat) (u1 : Int32) (μ : Mu) (hf : fX7_pass a u1 μ = some r) : Mt G l yX7_pass cX7_pass 4 (some .int) (3) 0 0 [.ref (gB G + a), .int u1] μ (some (.int r.1)) r.2 := by
  rw [fX7_pass] at hf
  have hf := grd_v hf
  refine Mt.of (by decide) (Nat.le_of_ble_eq_true rfl) (fun p e s m args below meth c => ?_)
  show LX7_pass G p l e s m args below meth c r 0 [(0, .ref (gB G + a)), (1, .int u1)] [] μ
  refine x_iload_n 1 dX7_pass_0 rfl ?_
  refine x_iconst 1 dX7_pass_1 (by decide) ?_
  refine x_bipush 20 dX7_pass_2 (by decide) ?_
  obtain ⟨q1, h2, hf⟩ := bnd hf
  refine x_callSi (rest := []) [.int u1, .int 1, .int 20] (tX7_in u1 1 20 μ h2) wY_X7_in wT_X7_in wL_X7_56 rfl (Nat.le_of_ble_eq_true rfl) ⟨Nat.le_of_ble_eq_true rfl, Nat.le_of_ble_eq_true rfl⟩ ⟨Nat.le_refl _, Nat.le_refl _⟩ dX7_pass_4 ?_
  refine x_if_ne 12 dX7_pass_7 rfl (fun c3 => ?_) (fun c3 => ?_)
  · rw [if_neg c3] at hf
    refine x_aload_n 0 dX7_pass_12 rfl ?_
    obtain ⟨x4, h5, hf⟩ := bnd hf
    refine x_getR wF_X7_19 (by decide) (by decide) rfl h5 dX7_pass_13 ?_
    refine x_iconst 0 dX7_pass_16 (by decide) ?_
    obtain ⟨x6, h7, hf⟩ := bnd hf
    refine x_iald h7 dX7_pass_17 ?_
    refine x_iload_n 1 dX7_pass_18 rfl ?_
    refine x_iadd dX7_pass_19 ?_
    refine x_sipush 999 dX7_pass_20 (by decide) ?_
    refine x_icmp_le 29 dX7_pass_23 rfl (fun c8 => ?_) (fun c8 => ?_)
    · rw [if_pos c8] at hf
      refine x_aload_n 0 dX7_pass_29 rfl ?_
      obtain ⟨q9, h10, hf⟩ := bnd hf
      refine x_callVv (rest := []) [] (tX7_keeps a  q1.2 h10) wY_X7_keeps wI_X7_keeps wS_X7_keeps wL_X7_139 (grd_p h10) (by decide) rfl rfl (Nat.le_of_ble_eq_true rfl) ⟨Nat.le_of_ble_eq_true rfl, Nat.le_of_ble_eq_true rfl⟩ ⟨Nat.le_refl _, Nat.le_refl _⟩ dX7_pass_30 ?_
      refine x_iconst 0 dX7_pass_33 (by decide) ?_
      refine x_istore_n [1, 2, 0] dX7_pass_34 (by decide) (lv' := [(0, .ref (gB G + a)), (1, .int u1), (2, .int 0)]) rfl ?_
      refine x_iconst 0 dX7_pass_35 (by decide) ?_
      refine x_istore_n [1, 2, 3, 0] dX7_pass_36 (by decide) (lv' := [(0, .ref (gB G + a)), (1, .int u1), (2, .int 0), (3, .int 0)]) rfl ?_
      exact tX7_pass_37  FU a u1 0 0 q9 hf
    · rw [if_neg c8] at hf
      refine x_bipush (-2) dX7_pass_26 (by decide) ?_
      exact y_iret rfl rfl rfl hf dX7_pass_28
  · rw [if_pos c3] at hf
    refine x_iconst (-1) dX7_pass_10 (by decide) ?_
    exact y_iret rfl rfl rfl hf dX7_pass_11
abbrev LX7_mayPut (G : Gm) (p : Program) (l : Launch) (e : Env) (s : State) (m : MethodId) (args : Array Value) (below : List Frame) (meth : Method) (c : Code) (r : Int32 × Mu) (pc : Nat) (lv : List (Nat × Value)) (st : List Value) (μ : Mu) : Prop := Lt G p l e { frames := 3, cells := 0, slots := 0, locals := 40 * (3) } s m args below meth c cX7_mayPut 3 RX7 (some .boolean) "mayPut" (MQ below (Qm G (some (.int r.1)) r.2 0) args s 0 0 (fA G)) 0 0 pc lv st μ
def fX7_mayPut (a : Nat) (u1 : Int32) (u2 : Int32) (μ : Mu) : Option (Int32 × Mu) := grd (isO 7 a μ) ((gR 7 a 4 μ).bind fun x1 =>
    (aI 8 x1 (7 + u1) μ).bind fun x3 =>
    (if x3 = (-1) then
    (gR 7 a 2 μ).bind fun x6 =>
    (aI 8 x6 (2 + u1) μ).bind fun x8 =>
    (fX7_isFit a x8 u2 0 μ).bind fun q10 =>
    (if q10.1 = 0 then
    some (0, q10.2)
    else
    some (1, q10.2))
    else
    some (0, μ)))
set_option maxRecDepth 20000 in
theorem tX7_mayPut {G : Gm} {l : Launch} {r : Int32 × Mu} (a : Nat) (u1 : Int32) (u2 : Int32) (μ : Mu) (hf : fX7_mayPut a u1 u2 μ = some r) : Mt G l yX7_mayPut cX7_mayPut 3 (some .boolean) (3) 0 0 [.ref (gB G + a), .int u1, .int u2] μ (some (.int r.1)) r.2 := by
  rw [fX7_mayPut] at hf
  have hf := grd_v hf
  refine Mt.of (by decide) (Nat.le_of_ble_eq_true rfl) (fun p e s m args below meth c => ?_)
  show LX7_mayPut G p l e s m args below meth c r 0 [(0, .ref (gB G + a)), (1, .int u1), (2, .int u2)] [] μ
  refine x_aload_n 0 dX7_mayPut_0 rfl ?_
  obtain ⟨x1, h2, hf⟩ := bnd hf
  refine x_getR wF_X7_19 (by decide) (by decide) rfl h2 dX7_mayPut_1 ?_
  refine x_bipush 7 dX7_mayPut_4 (by decide) ?_
  refine x_iload_n 1 dX7_mayPut_6 rfl ?_
  refine x_iadd dX7_mayPut_7 ?_
  obtain ⟨x3, h4, hf⟩ := bnd hf
  refine x_iald h4 dX7_mayPut_8 ?_
  refine x_iconst (-1) dX7_mayPut_9 (by decide) ?_
  refine x_icmp_ne 34 dX7_mayPut_10 rfl (fun c5 => ?_) (fun c5 => ?_)
  · rw [if_neg c5] at hf
    refine x_iconst 0 dX7_mayPut_34 (by decide) ?_
    exact y_zret rfl (by decide) rfl rfl hf dX7_mayPut_35
  · rw [if_pos c5] at hf
    refine x_aload_n 0 dX7_mayPut_13 rfl ?_
    refine x_aload_n 0 dX7_mayPut_14 rfl ?_
    obtain ⟨x6, h7, hf⟩ := bnd hf
    refine x_getR wF_X7_13 (by decide) (by decide) rfl h7 dX7_mayPut_15 ?_
    refine x_iconst 2 dX7_mayPut_18 (by decide) ?_
    refine x_iload_n 1 dX7_mayPut_19 rfl ?_
    refine x_iadd dX7_mayPut_20 ?_
    obtain ⟨x8, h9, hf⟩ := bnd hf
    refine x_iald h9 dX7_mayPut_21 ?_
    refine x_iload_n 2 dX7_mayPut_22 rfl ?_
    refine x_iconst 0 dX7_mayPut_23 (by decide) ?_
    obtain ⟨q10, h11, hf⟩ := bnd hf
    refine x_callVi (rest := []) [.int x8, .int u2, .int 0] (tX7_isFit a x8 u2 0 μ h11) wY_X7_isFit wI_X7_isFit wS_X7_isFit wL_X7_103 (grd_p h11) (by decide) rfl rfl (Nat.le_of_ble_eq_true rfl) ⟨Nat.le_of_ble_eq_true rfl, Nat.le_of_ble_eq_true rfl⟩ ⟨Nat.le_refl _, Nat.le_refl _⟩ dX7_mayPut_24 ?_
    refine x_if_eq 34 dX7_mayPut_27 rfl (fun c12 => ?_) (fun c12 => ?_)
    · rw [if_pos c12] at hf
      refine x_iconst 0 dX7_mayPut_34 (by decide) ?_
      exact y_zret rfl (by decide) rfl rfl hf dX7_mayPut_35
    · rw [if_neg c12] at hf
      refine x_iconst 1 dX7_mayPut_30 (by decide) ?_
      refine x_goto 35 dX7_mayPut_31 rfl ?_
      exact y_zret rfl (by decide) rfl rfl hf dX7_mayPut_35
abbrev LX7_put (G : Gm) (p : Program) (l : Launch) (e : Env) (s : State) (m : MethodId) (args : Array Value) (below : List Frame) (meth : Method) (c : Code) (r : Int32 × Mu) (pc : Nat) (lv : List (Nat × Value)) (st : List Value) (μ : Mu) : Prop := Lt G p l e { frames := 4, cells := 0, slots := 0, locals := 40 * (4) } s m args below meth c cX7_put 3 RX7 (some .int) "put" (MQ below (Qm G (some (.int r.1)) r.2 0) args s 0 0 (fA G)) 0 0 pc lv st μ
def fX7_put (a : Nat) (u1 : Int32) (u2 : Int32) (μ : Mu) : Option (Int32 × Mu) := grd (isO 7 a μ) ((fX7_isHour a u1 μ).bind fun q1 =>
    (if q1.1 = 0 then
    some ((-1), q1.2)
    else
    (fX7_isPlot a u2 q1.2).bind fun q4 =>
    (if q4.1 = 0 then
    some ((-1), q4.2)
    else
    (fX7_mayPut a u1 u2 q4.2).bind fun q7 =>
    (if q7.1 = 0 then
    some ((-2), q7.2)
    else
    (fX7_isFrost a  q7.2).bind fun q10 =>
    (if q10.1 = 0 then
    (fX7_keeps a  q10.2).bind fun q13 =>
    (fX7_lays a u1 u2 q13).bind fun q15 =>
    (gR 7 a 4 q15).bind fun x17 =>
    (aI 8 x17 (2 + u2) q15).bind fun x19 =>
    (fX7_allNeeds a u2 0 q15).bind fun q21 =>
    some (x19 - q21.1, q21.2)
    else
    some ((-2), q10.2))))))
set_option maxRecDepth 20000 in
theorem tX7_put {G : Gm} {l : Launch} {r : Int32 × Mu} (a : Nat) (u1 : Int32) (u2 : Int32) (μ : Mu) (hf : fX7_put a u1 u2 μ = some r) : Mt G l yX7_put cX7_put 3 (some .int) (4) 0 0 [.ref (gB G + a), .int u1, .int u2] μ (some (.int r.1)) r.2 := by
  rw [fX7_put] at hf
  have hf := grd_v hf
  refine Mt.of (by decide) (Nat.le_of_ble_eq_true rfl) (fun p e s m args below meth c => ?_)
  show LX7_put G p l e s m args below meth c r 0 [(0, .ref (gB G + a)), (1, .int u1), (2, .int u2)] [] μ
  refine x_aload_n 0 dX7_put_0 rfl ?_
  refine x_iload_n 1 dX7_put_1 rfl ?_
  obtain ⟨q1, h2, hf⟩ := bnd hf
  refine x_callVi (rest := []) [.int u1] (tX7_isHour a u1 μ h2) wY_X7_isHour wI_X7_isHour wS_X7_isHour wL_X7_133 (grd_p h2) (by decide) rfl rfl (Nat.le_of_ble_eq_true rfl) ⟨Nat.le_of_ble_eq_true rfl, Nat.le_of_ble_eq_true rfl⟩ ⟨Nat.le_refl _, Nat.le_refl _⟩ dX7_put_2 ?_
  refine x_if_eq 16 dX7_put_5 rfl (fun c3 => ?_) (fun c3 => ?_)
  · rw [if_pos c3] at hf
    refine x_iconst (-1) dX7_put_16 (by decide) ?_
    exact y_iret rfl rfl rfl hf dX7_put_17
  · rw [if_neg c3] at hf
    refine x_aload_n 0 dX7_put_8 rfl ?_
    refine x_iload_n 2 dX7_put_9 rfl ?_
    obtain ⟨q4, h5, hf⟩ := bnd hf
    refine x_callVi (rest := []) [.int u2] (tX7_isPlot a u2 q1.2 h5) wY_X7_isPlot wI_X7_isPlot wS_X7_isPlot wL_X7_130 (grd_p h5) (by decide) rfl rfl (Nat.le_of_ble_eq_true rfl) ⟨Nat.le_of_ble_eq_true rfl, Nat.le_of_ble_eq_true rfl⟩ ⟨Nat.le_refl _, Nat.le_refl _⟩ dX7_put_10 ?_
    refine x_if_ne 18 dX7_put_13 rfl (fun c6 => ?_) (fun c6 => ?_)
    · rw [if_neg c6] at hf
      refine x_aload_n 0 dX7_put_18 rfl ?_
      refine x_iload_n 1 dX7_put_19 rfl ?_
      refine x_iload_n 2 dX7_put_20 rfl ?_
      obtain ⟨q7, h8, hf⟩ := bnd hf
      refine x_callVi (rest := []) [.int u1, .int u2] (tX7_mayPut a u1 u2 q4.2 h8) wY_X7_mayPut wI_X7_mayPut wS_X7_mayPut wL_X7_145 (grd_p h8) (by decide) rfl rfl (Nat.le_of_ble_eq_true rfl) ⟨Nat.le_of_ble_eq_true rfl, Nat.le_of_ble_eq_true rfl⟩ ⟨Nat.le_refl _, Nat.le_refl _⟩ dX7_put_21 ?_
      refine x_if_eq 34 dX7_put_24 rfl (fun c9 => ?_) (fun c9 => ?_)
      · rw [if_pos c9] at hf
        refine x_bipush (-2) dX7_put_34 (by decide) ?_
        exact y_iret rfl rfl rfl hf dX7_put_36
      · rw [if_neg c9] at hf
        refine x_aload_n 0 dX7_put_27 rfl ?_
        obtain ⟨q10, h11, hf⟩ := bnd hf
        refine x_callVi (rest := []) [] (tX7_isFrost a  q7.2 h11) wY_X7_isFrost wI_X7_isFrost wS_X7_isFrost wL_X7_149 (grd_p h11) (by decide) rfl rfl (Nat.le_of_ble_eq_true rfl) ⟨Nat.le_of_ble_eq_true rfl, Nat.le_of_ble_eq_true rfl⟩ ⟨Nat.le_refl _, Nat.le_refl _⟩ dX7_put_28 ?_
        refine x_if_eq 37 dX7_put_31 rfl (fun c12 => ?_) (fun c12 => ?_)
        · rw [if_pos c12] at hf
          refine x_aload_n 0 dX7_put_37 rfl ?_
          obtain ⟨q13, h14, hf⟩ := bnd hf
          refine x_callVv (rest := []) [] (tX7_keeps a  q10.2 h14) wY_X7_keeps wI_X7_keeps wS_X7_keeps wL_X7_139 (grd_p h14) (by decide) rfl rfl (Nat.le_of_ble_eq_true rfl) ⟨Nat.le_of_ble_eq_true rfl, Nat.le_of_ble_eq_true rfl⟩ ⟨Nat.le_refl _, Nat.le_refl _⟩ dX7_put_38 ?_
          refine x_aload_n 0 dX7_put_41 rfl ?_
          refine x_iload_n 1 dX7_put_42 rfl ?_
          refine x_iload_n 2 dX7_put_43 rfl ?_
          obtain ⟨q15, h16, hf⟩ := bnd hf
          refine x_callVv (rest := []) [.int u1, .int u2] (tX7_lays a u1 u2 q13 h16) wY_X7_lays wI_X7_lays wS_X7_lays wL_X7_95 (grd_p h16) (by decide) rfl rfl (Nat.le_of_ble_eq_true rfl) ⟨Nat.le_of_ble_eq_true rfl, Nat.le_of_ble_eq_true rfl⟩ ⟨Nat.le_refl _, Nat.le_refl _⟩ dX7_put_44 ?_
          refine x_aload_n 0 dX7_put_47 rfl ?_
          obtain ⟨x17, h18, hf⟩ := bnd hf
          refine x_getR wF_X7_19 (by decide) (by decide) rfl h18 dX7_put_48 ?_
          refine x_iconst 2 dX7_put_51 (by decide) ?_
          refine x_iload_n 2 dX7_put_52 rfl ?_
          refine x_iadd dX7_put_53 ?_
          obtain ⟨x19, h20, hf⟩ := bnd hf
          refine x_iald h20 dX7_put_54 ?_
          refine x_aload_n 0 dX7_put_55 rfl ?_
          refine x_iload_n 2 dX7_put_56 rfl ?_
          refine x_iconst 0 dX7_put_57 (by decide) ?_
          obtain ⟨q21, h22, hf⟩ := bnd hf
          refine x_callVi (rest := [.int x19]) [.int u2, .int 0] (tX7_allNeeds a u2 0 q15 h22) wY_X7_allNeeds wI_X7_allNeeds wS_X7_allNeeds wL_X7_78 (grd_p h22) (by decide) rfl rfl (Nat.le_of_ble_eq_true rfl) ⟨Nat.le_of_ble_eq_true rfl, Nat.le_of_ble_eq_true rfl⟩ ⟨Nat.le_refl _, Nat.le_refl _⟩ dX7_put_58 ?_
          refine x_isub dX7_put_61 ?_
          exact y_iret rfl rfl rfl hf dX7_put_62
        · rw [if_neg c12] at hf
          refine x_bipush (-2) dX7_put_34 (by decide) ?_
          exact y_iret rfl rfl rfl hf dX7_put_36
    · rw [if_pos c6] at hf
      refine x_iconst (-1) dX7_put_16 (by decide) ?_
      exact y_iret rfl rfl rfl hf dX7_put_17
abbrev LX7_up (G : Gm) (p : Program) (l : Launch) (e : Env) (s : State) (m : MethodId) (args : Array Value) (below : List Frame) (meth : Method) (c : Code) (r : Int32 × Mu) (pc : Nat) (lv : List (Nat × Value)) (st : List Value) (μ : Mu) : Prop := Lt G p l e { frames := 2, cells := 0, slots := 0, locals := 40 * (2) } s m args below meth c cX7_up 3 RX7 (some .int) "up" (MQ below (Qm G (some (.int r.1)) r.2 0) args s 0 0 (fA G)) 0 0 pc lv st μ
def fX7_up (a : Nat) (u1 : Int32) (μ : Mu) : Option (Int32 × Mu) := grd (isO 7 a μ) ((fX7_isHour a u1 μ).bind fun q1 =>
    (if q1.1 = 0 then
    some ((-1), q1.2)
    else
    (gR 7 a 4 q1.2).bind fun x4 =>
    (aI 8 x4 (7 + u1) q1.2).bind fun x6 =>
    (if x6 = (-1) then
    some ((-2), q1.2)
    else
    (fX7_keeps a  q1.2).bind fun q9 =>
    (fX7_takes a u1 q9).bind fun q11 =>
    (gR 7 a 4 q11.2).bind fun x13 =>
    (aI 8 x13 1 q11.2).bind fun x15 =>
    (bI 8 x13 1 (x15 + q11.1) q11.2).bind fun m17 =>
    some (q11.1, m17))))
set_option maxRecDepth 20000 in
theorem tX7_up {G : Gm} {l : Launch} {r : Int32 × Mu} (a : Nat) (u1 : Int32) (μ : Mu) (hf : fX7_up a u1 μ = some r) : Mt G l yX7_up cX7_up 3 (some .int) (2) 0 0 [.ref (gB G + a), .int u1] μ (some (.int r.1)) r.2 := by
  rw [fX7_up] at hf
  have hf := grd_v hf
  refine Mt.of (by decide) (Nat.le_of_ble_eq_true rfl) (fun p e s m args below meth c => ?_)
  show LX7_up G p l e s m args below meth c r 0 [(0, .ref (gB G + a)), (1, .int u1)] [] μ
  refine x_aload_n 0 dX7_up_0 rfl ?_
  refine x_iload_n 1 dX7_up_1 rfl ?_
  obtain ⟨q1, h2, hf⟩ := bnd hf
  refine x_callVi (rest := []) [.int u1] (tX7_isHour a u1 μ h2) wY_X7_isHour wI_X7_isHour wS_X7_isHour wL_X7_133 (grd_p h2) (by decide) rfl rfl (Nat.le_of_ble_eq_true rfl) ⟨Nat.le_of_ble_eq_true rfl, Nat.le_of_ble_eq_true rfl⟩ ⟨Nat.le_refl _, Nat.le_refl _⟩ dX7_up_2 ?_
  refine x_if_ne 10 dX7_up_5 rfl (fun c3 => ?_) (fun c3 => ?_)
  · rw [if_neg c3] at hf
    refine x_aload_n 0 dX7_up_10 rfl ?_
    obtain ⟨x4, h5, hf⟩ := bnd hf
    refine x_getR wF_X7_19 (by decide) (by decide) rfl h5 dX7_up_11 ?_
    refine x_bipush 7 dX7_up_14 (by decide) ?_
    refine x_iload_n 1 dX7_up_16 rfl ?_
    refine x_iadd dX7_up_17 ?_
    obtain ⟨x6, h7, hf⟩ := bnd hf
    refine x_iald h7 dX7_up_18 ?_
    refine x_iconst (-1) dX7_up_19 (by decide) ?_
    refine x_icmp_ne 26 dX7_up_20 rfl (fun c8 => ?_) (fun c8 => ?_)
    · rw [if_neg c8] at hf
      refine x_aload_n 0 dX7_up_26 rfl ?_
      obtain ⟨q9, h10, hf⟩ := bnd hf
      refine x_callVv (rest := []) [] (tX7_keeps a  q1.2 h10) wY_X7_keeps wI_X7_keeps wS_X7_keeps wL_X7_139 (grd_p h10) (by decide) rfl rfl (Nat.le_of_ble_eq_true rfl) ⟨Nat.le_of_ble_eq_true rfl, Nat.le_of_ble_eq_true rfl⟩ ⟨Nat.le_refl _, Nat.le_refl _⟩ dX7_up_27 ?_
      refine x_aload_n 0 dX7_up_30 rfl ?_
      refine x_iload_n 1 dX7_up_31 rfl ?_
      obtain ⟨q11, h12, hf⟩ := bnd hf
      refine x_callVi (rest := []) [.int u1] (tX7_takes a u1 q9 h12) wY_X7_takes wI_X7_takes wS_X7_takes wL_X7_136 (grd_p h12) (by decide) rfl rfl (Nat.le_of_ble_eq_true rfl) ⟨Nat.le_of_ble_eq_true rfl, Nat.le_of_ble_eq_true rfl⟩ ⟨Nat.le_refl _, Nat.le_refl _⟩ dX7_up_32 ?_
      refine x_istore_n [1, 2, 0] dX7_up_35 (by decide) (lv' := [(0, .ref (gB G + a)), (1, .int u1), (2, .int q11.1)]) rfl ?_
      refine x_aload_n 0 dX7_up_36 rfl ?_
      obtain ⟨x13, h14, hf⟩ := bnd hf
      refine x_getR wF_X7_19 (by decide) (by decide) rfl h14 dX7_up_37 ?_
      refine x_iconst 1 dX7_up_40 (by decide) ?_
      refine x_dup2 dX7_up_41 rfl rfl ?_
      obtain ⟨x15, h16, hf⟩ := bnd hf
      refine x_iald h16 dX7_up_42 ?_
      refine x_iload_n 2 dX7_up_43 rfl ?_
      refine x_iadd dX7_up_44 ?_
      obtain ⟨m17, h18, hf⟩ := bnd hf
      refine x_iast h18 dX7_up_45 ?_
      refine x_iload_n 2 dX7_up_46 rfl ?_
      exact y_iret rfl rfl rfl hf dX7_up_47
    · rw [if_pos c8] at hf
      refine x_bipush (-2) dX7_up_23 (by decide) ?_
      exact y_iret rfl rfl rfl hf dX7_up_25
  · rw [if_pos c3] at hf
    refine x_iconst (-1) dX7_up_8 (by decide) ?_
    exact y_iret rfl rfl rfl hf dX7_up_9
abbrev LX7_dig (G : Gm) (p : Program) (l : Launch) (e : Env) (s : State) (m : MethodId) (args : Array Value) (below : List Frame) (meth : Method) (c : Code) (r : Int32 × Mu) (pc : Nat) (lv : List (Nat × Value)) (st : List Value) (μ : Mu) : Prop := Lt G p l e { frames := 2, cells := 0, slots := 0, locals := 40 * (2) } s m args below meth c cX7_dig 2 RX7 (some .int) "dig" (MQ below (Qm G (some (.int r.1)) r.2 0) args s 0 0 (fA G)) 0 0 pc lv st μ
def fX7_dig (a : Nat) (u1 : Int32) (μ : Mu) : Option (Int32 × Mu) := grd (isO 7 a μ) ((fX7_isPlot a u1 μ).bind fun q1 =>
    (if q1.1 = 0 then
    some ((-1), q1.2)
    else
    (gR 7 a 4 q1.2).bind fun x4 =>
    (aI 8 x4 (2 + u1) q1.2).bind fun x6 =>
    (if x6 = 9 then
    some ((-2), q1.2)
    else
    (fX7_keeps a  q1.2).bind fun q9 =>
    (gR 7 a 4 q9).bind fun x11 =>
    (aI 8 x11 (2 + u1) q9).bind fun x13 =>
    (bI 8 x11 (2 + u1) (x13 + 1) q9).bind fun m15 =>
    (gR 7 a 4 m15).bind fun x17 =>
    (aI 8 x17 (2 + u1) m15).bind fun x19 =>
    some (x19, m15))))
set_option maxRecDepth 20000 in
theorem tX7_dig {G : Gm} {l : Launch} {r : Int32 × Mu} (a : Nat) (u1 : Int32) (μ : Mu) (hf : fX7_dig a u1 μ = some r) : Mt G l yX7_dig cX7_dig 2 (some .int) (2) 0 0 [.ref (gB G + a), .int u1] μ (some (.int r.1)) r.2 := by
  rw [fX7_dig] at hf
  have hf := grd_v hf
  refine Mt.of (by decide) (Nat.le_of_ble_eq_true rfl) (fun p e s m args below meth c => ?_)
  show LX7_dig G p l e s m args below meth c r 0 [(0, .ref (gB G + a)), (1, .int u1)] [] μ
  refine x_aload_n 0 dX7_dig_0 rfl ?_
  refine x_iload_n 1 dX7_dig_1 rfl ?_
  obtain ⟨q1, h2, hf⟩ := bnd hf
  refine x_callVi (rest := []) [.int u1] (tX7_isPlot a u1 μ h2) wY_X7_isPlot wI_X7_isPlot wS_X7_isPlot wL_X7_130 (grd_p h2) (by decide) rfl rfl (Nat.le_of_ble_eq_true rfl) ⟨Nat.le_of_ble_eq_true rfl, Nat.le_of_ble_eq_true rfl⟩ ⟨Nat.le_refl _, Nat.le_refl _⟩ dX7_dig_2 ?_
  refine x_if_ne 10 dX7_dig_5 rfl (fun c3 => ?_) (fun c3 => ?_)
  · rw [if_neg c3] at hf
    refine x_aload_n 0 dX7_dig_10 rfl ?_
    obtain ⟨x4, h5, hf⟩ := bnd hf
    refine x_getR wF_X7_19 (by decide) (by decide) rfl h5 dX7_dig_11 ?_
    refine x_iconst 2 dX7_dig_14 (by decide) ?_
    refine x_iload_n 1 dX7_dig_15 rfl ?_
    refine x_iadd dX7_dig_16 ?_
    obtain ⟨x6, h7, hf⟩ := bnd hf
    refine x_iald h7 dX7_dig_17 ?_
    refine x_bipush 9 dX7_dig_18 (by decide) ?_
    refine x_icmp_ne 26 dX7_dig_20 rfl (fun c8 => ?_) (fun c8 => ?_)
    · rw [if_neg c8] at hf
      refine x_aload_n 0 dX7_dig_26 rfl ?_
      obtain ⟨q9, h10, hf⟩ := bnd hf
      refine x_callVv (rest := []) [] (tX7_keeps a  q1.2 h10) wY_X7_keeps wI_X7_keeps wS_X7_keeps wL_X7_139 (grd_p h10) (by decide) rfl rfl (Nat.le_of_ble_eq_true rfl) ⟨Nat.le_of_ble_eq_true rfl, Nat.le_of_ble_eq_true rfl⟩ ⟨Nat.le_refl _, Nat.le_refl _⟩ dX7_dig_27 ?_
      refine x_aload_n 0 dX7_dig_30 rfl ?_
      obtain ⟨x11, h12, hf⟩ := bnd hf
      refine x_getR wF_X7_19 (by decide) (by decide) rfl h12 dX7_dig_31 ?_
      refine x_iconst 2 dX7_dig_34 (by decide) ?_
      refine x_iload_n 1 dX7_dig_35 rfl ?_
      refine x_iadd dX7_dig_36 ?_
      refine x_dup2 dX7_dig_37 rfl rfl ?_
      obtain ⟨x13, h14, hf⟩ := bnd hf
      refine x_iald h14 dX7_dig_38 ?_
      refine x_iconst 1 dX7_dig_39 (by decide) ?_
      refine x_iadd dX7_dig_40 ?_
      obtain ⟨m15, h16, hf⟩ := bnd hf
      refine x_iast h16 dX7_dig_41 ?_
      refine x_aload_n 0 dX7_dig_42 rfl ?_
      obtain ⟨x17, h18, hf⟩ := bnd hf
      refine x_getR wF_X7_19 (by decide) (by decide) rfl h18 dX7_dig_43 ?_
      refine x_iconst 2 dX7_dig_46 (by decide) ?_
      refine x_iload_n 1 dX7_dig_47 rfl ?_
      refine x_iadd dX7_dig_48 ?_
      obtain ⟨x19, h20, hf⟩ := bnd hf
      refine x_iald h20 dX7_dig_49 ?_
      exact y_iret rfl rfl rfl hf dX7_dig_50
    · rw [if_pos c8] at hf
      refine x_bipush (-2) dX7_dig_23 (by decide) ?_
      exact y_iret rfl rfl rfl hf dX7_dig_25
  · rw [if_pos c3] at hf
    refine x_iconst (-1) dX7_dig_8 (by decide) ?_
    exact y_iret rfl rfl rfl hf dX7_dig_9
abbrev LX7_undo (G : Gm) (p : Program) (l : Launch) (e : Env) (s : State) (m : MethodId) (args : Array Value) (below : List Frame) (meth : Method) (c : Code) (r : Int32 × Mu) (pc : Nat) (lv : List (Nat × Value)) (st : List Value) (μ : Mu) : Prop := Lt G p l e { frames := 0, cells := 0, slots := 0, locals := 40 * (0) } s m args below meth c cX7_undo 2 RX7 (some .int) "undo" (MQ below (Qm G (some (.int r.1)) r.2 0) args s 0 0 (fA G)) 0 0 pc lv st μ
def fX7_undo_22 : Nat → Nat → Int32 → Mu → Option (Int32 × Mu)
  | 0, _, _, _ => none
  | n + 1, v0, v1, μ => (if 21 ≤ v1 then
    (gI 7 v0 6 μ).bind fun x9 =>
    some (x9, μ)
    else
    (gR 7 v0 4 μ).bind fun x11 =>
    (gR 7 v0 5 μ).bind fun x13 =>
    (gI 7 v0 6 μ).bind fun x15 =>
    (aI 8 x13 ((21 * x15) + v1) μ).bind fun x17 =>
    (bI 8 x11 v1 x17 μ).bind fun m19 =>
    (fX7_undo_22 n) v0 (v1 + 1) m19)
set_option maxRecDepth 20000 in
theorem tX7_undo_22 {G : Gm} {p : Program} {l : Launch} {e : Env} {s : State} {m : MethodId} {args : Array Value} {below : List Frame} {meth : Method} {c : Code} {r : Int32 × Mu} : ∀ (n : Nat) (v0 : Nat) (v1 : Int32) (μ : Mu), fX7_undo_22 n v0 v1 μ = some r → LX7_undo G p l e s m args below meth c r 22 [(0, .ref (gB G + v0)), (1, .int v1)] [] μ := by
  intro n
  induction n with
  | zero =>
    intro v0 v1 μ hf
    simp [fX7_undo_22] at hf
  | succ n ih =>
    intro v0 v1 μ hf
    rw [fX7_undo_22] at hf
    refine x_iload_n 1 dX7_undo_22 rfl ?_
    refine x_bipush 21 dX7_undo_23 (by decide) ?_
    refine x_icmp_ge 54 dX7_undo_25 rfl (fun c8 => ?_) (fun c8 => ?_)
    · rw [if_pos c8] at hf
      refine x_aload_n 0 dX7_undo_54 rfl ?_
      obtain ⟨x9, h10, hf⟩ := bnd hf
      refine x_getI wF_X7_121 (by decide) (by decide) rfl h10 dX7_undo_55 ?_
      exact y_iret rfl rfl rfl hf dX7_undo_58
    · rw [if_neg c8] at hf
      refine x_aload_n 0 dX7_undo_28 rfl ?_
      obtain ⟨x11, h12, hf⟩ := bnd hf
      refine x_getR wF_X7_19 (by decide) (by decide) rfl h12 dX7_undo_29 ?_
      refine x_iload_n 1 dX7_undo_32 rfl ?_
      refine x_aload_n 0 dX7_undo_33 rfl ?_
      obtain ⟨x13, h14, hf⟩ := bnd hf
      refine x_getR wF_X7_22 (by decide) (by decide) rfl h14 dX7_undo_34 ?_
      refine x_bipush 21 dX7_undo_37 (by decide) ?_
      refine x_aload_n 0 dX7_undo_39 rfl ?_
      obtain ⟨x15, h16, hf⟩ := bnd hf
      refine x_getI wF_X7_121 (by decide) (by decide) rfl h16 dX7_undo_40 ?_
      refine x_imul dX7_undo_43 ?_
      refine x_iload_n 1 dX7_undo_44 rfl ?_
      refine x_iadd dX7_undo_45 ?_
      obtain ⟨x17, h18, hf⟩ := bnd hf
      refine x_iald h18 dX7_undo_46 ?_
      obtain ⟨m19, h20, hf⟩ := bnd hf
      refine x_iast h20 dX7_undo_47 ?_
      refine x_iinc 1 (v1 + 1) [1, 0] dX7_undo_48 rfl rfl (by decide) (lv' := [(0, .ref (gB G + v0)), (1, .int (v1 + 1))]) rfl ?_
      refine x_goto 22 dX7_undo_51 rfl ?_
      exact ih v0 (v1 + 1) m19 hf
def fX7_undo (a : Nat) (μ : Mu) : Option (Int32 × Mu) := grd (isO 7 a μ) ((gI 7 a 6 μ).bind fun x1 =>
    (if x1 = 0 then
    some ((-2), μ)
    else
    (gI 7 a 6 μ).bind fun x4 =>
    (pI 7 a 6 (x4 - 1) μ).bind fun m6 =>
    fX7_undo_22  FU a 0 m6))
set_option maxRecDepth 20000 in
theorem tX7_undo {G : Gm} {l : Launch} {r : Int32 × Mu} (a : Nat) (μ : Mu) (hf : fX7_undo a μ = some r) : Mt G l yX7_undo cX7_undo 2 (some .int) (0) 0 0 [.ref (gB G + a)] μ (some (.int r.1)) r.2 := by
  rw [fX7_undo] at hf
  have hf := grd_v hf
  refine Mt.of (by decide) (Nat.le_of_ble_eq_true rfl) (fun p e s m args below meth c => ?_)
  show LX7_undo G p l e s m args below meth c r 0 [(0, .ref (gB G + a))] [] μ
  refine x_aload_n 0 dX7_undo_0 rfl ?_
  obtain ⟨x1, h2, hf⟩ := bnd hf
  refine x_getI wF_X7_121 (by decide) (by decide) rfl h2 dX7_undo_1 ?_
  refine x_if_ne 10 dX7_undo_4 rfl (fun c3 => ?_) (fun c3 => ?_)
  · rw [if_neg c3] at hf
    refine x_aload_n 0 dX7_undo_10 rfl ?_
    refine x_dup dX7_undo_11 rfl ?_
    obtain ⟨x4, h5, hf⟩ := bnd hf
    refine x_getI wF_X7_121 (by decide) (by decide) rfl h5 dX7_undo_12 ?_
    refine x_iconst 1 dX7_undo_15 (by decide) ?_
    refine x_isub dX7_undo_16 ?_
    obtain ⟨m6, h7, hf⟩ := bnd hf
    refine x_putI wF_X7_121 (by decide) (by decide) rfl rfl h7 dX7_undo_17 ?_
    refine x_iconst 0 dX7_undo_20 (by decide) ?_
    refine x_istore_n [1, 0] dX7_undo_21 (by decide) (lv' := [(0, .ref (gB G + a)), (1, .int 0)]) rfl ?_
    exact tX7_undo_22  FU a 0 m6 hf
  · rw [if_pos c3] at hf
    refine x_bipush (-2) dX7_undo_7 (by decide) ?_
    exact y_iret rfl rfl rfl hf dX7_undo_9
abbrev LX7_looks (G : Gm) (p : Program) (l : Launch) (e : Env) (s : State) (m : MethodId) (args : Array Value) (below : List Frame) (meth : Method) (c : Code) (r : Mu) (pc : Nat) (lv : List (Nat × Value)) (st : List Value) (μ : Mu) : Prop := Lt G p l e { frames := 0, cells := 0, slots := 0, locals := 40 * (0) } s m args below meth c cX7_looks 2 RX7 none "looks" (MQ below (Qm G none r 0) args s 0 0 (fA G)) 0 0 pc lv st μ
def fX7_looks_2 : Nat → Nat → Int32 → Mu → Option (Mu)
  | 0, _, _, _ => none
  | n + 1, v0, v1, μ => (if 21 ≤ v1 then
    some μ
    else
    (gR 7 v0 12 μ).bind fun x2 =>
    (gR 7 v0 4 μ).bind fun x4 =>
    (aI 8 x4 v1 μ).bind fun x6 =>
    (bI 8 x2 v1 x6 μ).bind fun m8 =>
    (fX7_looks_2 n) v0 (v1 + 1) m8)
set_option maxRecDepth 20000 in
theorem tX7_looks_2 {G : Gm} {p : Program} {l : Launch} {e : Env} {s : State} {m : MethodId} {args : Array Value} {below : List Frame} {meth : Method} {c : Code} {r : Mu} : ∀ (n : Nat) (v0 : Nat) (v1 : Int32) (μ : Mu), fX7_looks_2 n v0 v1 μ = some r → LX7_looks G p l e s m args below meth c r 2 [(0, .ref (gB G + v0)), (1, .int v1)] [] μ := by
  intro n
  induction n with
  | zero =>
    intro v0 v1 μ hf
    simp [fX7_looks_2] at hf
  | succ n ih =>
    intro v0 v1 μ hf
    rw [fX7_looks_2] at hf
    refine x_iload_n 1 dX7_looks_2 rfl ?_
    refine x_bipush 21 dX7_looks_3 (by decide) ?_
    refine x_icmp_ge 26 dX7_looks_5 rfl (fun c1 => ?_) (fun c1 => ?_)
    · rw [if_pos c1] at hf
      exact y_vret rfl rfl rfl hf dX7_looks_26
    · rw [if_neg c1] at hf
      refine x_aload_n 0 dX7_looks_8 rfl ?_
      obtain ⟨x2, h3, hf⟩ := bnd hf
      refine x_getR wF_X7_31 (by decide) (by decide) rfl h3 dX7_looks_9 ?_
      refine x_iload_n 1 dX7_looks_12 rfl ?_
      refine x_aload_n 0 dX7_looks_13 rfl ?_
      obtain ⟨x4, h5, hf⟩ := bnd hf
      refine x_getR wF_X7_19 (by decide) (by decide) rfl h5 dX7_looks_14 ?_
      refine x_iload_n 1 dX7_looks_17 rfl ?_
      obtain ⟨x6, h7, hf⟩ := bnd hf
      refine x_iald h7 dX7_looks_18 ?_
      obtain ⟨m8, h9, hf⟩ := bnd hf
      refine x_iast h9 dX7_looks_19 ?_
      refine x_iinc 1 (v1 + 1) [1, 0] dX7_looks_20 rfl rfl (by decide) (lv' := [(0, .ref (gB G + v0)), (1, .int (v1 + 1))]) rfl ?_
      refine x_goto 2 dX7_looks_23 rfl ?_
      exact ih v0 (v1 + 1) m8 hf
def fX7_looks (a : Nat) (μ : Mu) : Option (Mu) := grd (isO 7 a μ) (fX7_looks_2  FU a 0 μ)
set_option maxRecDepth 20000 in
theorem tX7_looks {G : Gm} {l : Launch} {r : Mu} (a : Nat) (μ : Mu) (hf : fX7_looks a μ = some r) : Mt G l yX7_looks cX7_looks 2 none (0) 0 0 [.ref (gB G + a)] μ none r := by
  rw [fX7_looks] at hf
  have hf := grd_v hf
  refine Mt.of (by decide) (Nat.le_of_ble_eq_true rfl) (fun p e s m args below meth c => ?_)
  show LX7_looks G p l e s m args below meth c r 0 [(0, .ref (gB G + a))] [] μ
  refine x_iconst 0 dX7_looks_0 (by decide) ?_
  refine x_istore_n [1, 0] dX7_looks_1 (by decide) (lv' := [(0, .ref (gB G + a)), (1, .int 0)]) rfl ?_
  exact tX7_looks_2  FU a 0 μ hf
abbrev LX7_out (G : Gm) (p : Program) (l : Launch) (e : Env) (s : State) (m : MethodId) (args : Array Value) (below : List Frame) (meth : Method) (c : Code) (r : Int32 × Mu) (pc : Nat) (lv : List (Nat × Value)) (st : List Value) (μ : Mu) : Prop := Lt G p l e { frames := 3, cells := 0, slots := 0, locals := 40 * (3) } s m args below meth c cX7_out 3 RX7 (some .int) "out" (MQ below (Qm G (some (.int r.1)) r.2 0) args s 0 0 (fA G)) 0 0 pc lv st μ
def fX7_out_47 (v0 : Nat) (v2 : Int32) (μ : Mu) : Option (Int32 × Mu) := (fX7_lets v0  μ).bind fun q7 =>
    (if v2 ≤ 60 then
    some (v2, q7)
    else
    some ((-4), q7))
set_option maxRecDepth 20000 in
theorem tX7_out_47 {G : Gm} {p : Program} {l : Launch} {e : Env} {s : State} {m : MethodId} {args : Array Value} {below : List Frame} {meth : Method} {c : Code} {r : Int32 × Mu} (v0 : Nat) (v2 : Int32) (μ : Mu) (hf : fX7_out_47 v0 v2 μ = some r) : LX7_out G p l e s m args below meth c r 47 [(0, .ref (gB G + v0)), (2, .int v2)] [] μ := by
  rw [fX7_out_47] at hf
  refine x_aload_n 0 dX7_out_47 rfl ?_
  obtain ⟨q7, h8, hf⟩ := bnd hf
  refine x_callVv (rest := []) [] (tX7_lets v0  μ h8) wY_X7_lets wI_X7_lets wS_X7_lets wL_X7_118 (grd_p h8) (by decide) rfl rfl (Nat.le_of_ble_eq_true rfl) ⟨Nat.le_of_ble_eq_true rfl, Nat.le_of_ble_eq_true rfl⟩ ⟨Nat.le_refl _, Nat.le_refl _⟩ dX7_out_48 ?_
  refine x_iload_n 1 dX7_out_51 rfl ?_
  refine x_bipush 60 dX7_out_52 (by decide) ?_
  refine x_icmp_le 62 dX7_out_54 rfl (fun c9 => ?_) (fun c9 => ?_)
  · rw [if_pos c9] at hf
    refine x_iload_n 1 dX7_out_62 rfl ?_
    exact y_iret rfl rfl rfl hf dX7_out_63
  · rw [if_neg c9] at hf
    refine x_bipush (-4) dX7_out_57 (by decide) ?_
    refine x_goto 63 dX7_out_59 rfl ?_
    exact y_iret rfl rfl rfl hf dX7_out_63
def fX7_out_16 : Nat → Nat → Int32 → Int32 → Mu → Option (Int32 × Mu)
  | 0, _, _, _, _ => none
  | n + 1, v0, v1, v2, μ => (if 60 < v2 then
    fX7_out_47  v0 v2 μ
    else
    (gR 7 v0 4 μ).bind fun x10 =>
    (aI 8 x10 (7 + v1) μ).bind fun x12 =>
    (if x12 = (-1) then
    fX7_out_47  v0 v2 μ
    else
    (fX7_passes v0 1 μ).bind fun q15 =>
    (fX7_out_16 n) v0 v1 (v2 + 1) q15.2))
set_option maxRecDepth 20000 in
theorem tX7_out_16 {G : Gm} {p : Program} {l : Launch} {e : Env} {s : State} {m : MethodId} {args : Array Value} {below : List Frame} {meth : Method} {c : Code} {r : Int32 × Mu} : ∀ (n : Nat) (v0 : Nat) (v1 : Int32) (v2 : Int32) (μ : Mu), fX7_out_16 n v0 v1 v2 μ = some r → LX7_out G p l e s m args below meth c r 16 [(0, .ref (gB G + v0)), (1, .int v1), (2, .int v2)] [] μ := by
  intro n
  induction n with
  | zero =>
    intro v0 v1 v2 μ hf
    simp [fX7_out_16] at hf
  | succ n ih =>
    intro v0 v1 v2 μ hf
    rw [fX7_out_16] at hf
    refine x_iload_n 2 dX7_out_16 rfl ?_
    refine x_bipush 60 dX7_out_17 (by decide) ?_
    refine x_icmp_gt 47 dX7_out_19 rfl (fun c6 => ?_) (fun c6 => ?_)
    · rw [if_pos c6] at hf
      refine x_sub [0, 2] (lv' := [(0, .ref (gB G + v0)), (2, .int v2)]) rfl ?_
      exact tX7_out_47  v0 v2 μ hf
    · rw [if_neg c6] at hf
      refine x_aload_n 0 dX7_out_22 rfl ?_
      obtain ⟨x10, h11, hf⟩ := bnd hf
      refine x_getR wF_X7_19 (by decide) (by decide) rfl h11 dX7_out_23 ?_
      refine x_bipush 7 dX7_out_26 (by decide) ?_
      refine x_iload_n 1 dX7_out_28 rfl ?_
      refine x_iadd dX7_out_29 ?_
      obtain ⟨x12, h13, hf⟩ := bnd hf
      refine x_iald h13 dX7_out_30 ?_
      refine x_iconst (-1) dX7_out_31 (by decide) ?_
      refine x_icmp_eq 47 dX7_out_32 rfl (fun c14 => ?_) (fun c14 => ?_)
      · rw [if_pos c14] at hf
        refine x_sub [0, 2] (lv' := [(0, .ref (gB G + v0)), (2, .int v2)]) rfl ?_
        exact tX7_out_47  v0 v2 μ hf
      · rw [if_neg c14] at hf
        refine x_aload_n 0 dX7_out_35 rfl ?_
        refine x_iconst 1 dX7_out_36 (by decide) ?_
        obtain ⟨q15, h16, hf⟩ := bnd hf
        refine x_callVi (rest := []) [.int 1] (tX7_passes v0 1 μ h16) wY_X7_passes wI_X7_passes wS_X7_passes wL_X7_142 (grd_p h16) (by decide) rfl rfl (Nat.le_of_ble_eq_true rfl) ⟨Nat.le_of_ble_eq_true rfl, Nat.le_of_ble_eq_true rfl⟩ ⟨Nat.le_refl _, Nat.le_refl _⟩ dX7_out_37 ?_
        refine x_pop dX7_out_40 rfl ?_
        refine x_iinc 2 (v2 + 1) [1, 2, 0] dX7_out_41 rfl rfl (by decide) (lv' := [(0, .ref (gB G + v0)), (1, .int v1), (2, .int (v2 + 1))]) rfl ?_
        refine x_goto 16 dX7_out_44 rfl ?_
        exact ih v0 v1 (v2 + 1) q15.2 hf
def fX7_out (a : Nat) (u1 : Int32) (μ : Mu) : Option (Int32 × Mu) := grd (isO 7 a μ) ((fX7_isHour a u1 μ).bind fun q1 =>
    (if q1.1 = 0 then
    some ((-1), q1.2)
    else
    (fX7_looks a  q1.2).bind fun q4 =>
    fX7_out_16  FU a u1 0 q4))
set_option maxRecDepth 20000 in
theorem tX7_out {G : Gm} {l : Launch} {r : Int32 × Mu} (a : Nat) (u1 : Int32) (μ : Mu) (hf : fX7_out a u1 μ = some r) : Mt G l yX7_out cX7_out 3 (some .int) (3) 0 0 [.ref (gB G + a), .int u1] μ (some (.int r.1)) r.2 := by
  rw [fX7_out] at hf
  have hf := grd_v hf
  refine Mt.of (by decide) (Nat.le_of_ble_eq_true rfl) (fun p e s m args below meth c => ?_)
  show LX7_out G p l e s m args below meth c r 0 [(0, .ref (gB G + a)), (1, .int u1)] [] μ
  refine x_aload_n 0 dX7_out_0 rfl ?_
  refine x_iload_n 1 dX7_out_1 rfl ?_
  obtain ⟨q1, h2, hf⟩ := bnd hf
  refine x_callVi (rest := []) [.int u1] (tX7_isHour a u1 μ h2) wY_X7_isHour wI_X7_isHour wS_X7_isHour wL_X7_133 (grd_p h2) (by decide) rfl rfl (Nat.le_of_ble_eq_true rfl) ⟨Nat.le_of_ble_eq_true rfl, Nat.le_of_ble_eq_true rfl⟩ ⟨Nat.le_refl _, Nat.le_refl _⟩ dX7_out_2 ?_
  refine x_if_ne 10 dX7_out_5 rfl (fun c3 => ?_) (fun c3 => ?_)
  · rw [if_neg c3] at hf
    refine x_aload_n 0 dX7_out_10 rfl ?_
    obtain ⟨q4, h5, hf⟩ := bnd hf
    refine x_callVv (rest := []) [] (tX7_looks a  q1.2 h5) wY_X7_looks wI_X7_looks wS_X7_looks wL_X7_153 (grd_p h5) (by decide) rfl rfl (Nat.le_of_ble_eq_true rfl) ⟨Nat.le_of_ble_eq_true rfl, Nat.le_of_ble_eq_true rfl⟩ ⟨Nat.le_refl _, Nat.le_refl _⟩ dX7_out_11 ?_
    refine x_iconst 0 dX7_out_14 (by decide) ?_
    refine x_istore_n [1, 2, 0] dX7_out_15 (by decide) (lv' := [(0, .ref (gB G + a)), (1, .int u1), (2, .int 0)]) rfl ?_
    exact tX7_out_16  FU a u1 0 q4 hf
  · rw [if_pos c3] at hf
    refine x_iconst (-1) dX7_out_8 (by decide) ?_
    exact y_iret rfl rfl rfl hf dX7_out_9
abbrev LX7_behind (G : Gm) (p : Program) (l : Launch) (e : Env) (s : State) (m : MethodId) (args : Array Value) (below : List Frame) (meth : Method) (c : Code) (r : Int32 × Mu) (pc : Nat) (lv : List (Nat × Value)) (st : List Value) (μ : Mu) : Prop := Lt G p l e { frames := 3, cells := 0, slots := 0, locals := 40 * (3) } s m args below meth c cX7_behind 4 RX7 (some .int) "behind" (MQ below (Qm G (some (.int r.1)) r.2 0) args s 0 0 (fA G)) 0 0 pc lv st μ
def fX7_behind_26 : Nat → Nat → Int32 → Int32 → Int32 → Mu → Option (Int32 × Mu)
  | 0, _, _, _, _, _ => none
  | n + 1, v0, v1, v2, v3, μ => (if v1 ≤ v3 then
    (gR 7 v0 4 μ).bind fun x10 =>
    (aI 8 x10 (7 + v2) μ).bind fun x12 =>
    (fX7_lets v0  μ).bind fun q14 =>
    (if x12 = (-1) then
    some ((-4), q14)
    else
    some (x12, q14))
    else
    (fX7_passes v0 1 μ).bind fun q17 =>
    (fX7_behind_26 n) v0 v1 v2 (v3 + 1) q17.2)
set_option maxRecDepth 20000 in
theorem tX7_behind_26 {G : Gm} {p : Program} {l : Launch} {e : Env} {s : State} {m : MethodId} {args : Array Value} {below : List Frame} {meth : Method} {c : Code} {r : Int32 × Mu} : ∀ (n : Nat) (v0 : Nat) (v1 : Int32) (v2 : Int32) (v3 : Int32) (μ : Mu), fX7_behind_26 n v0 v1 v2 v3 μ = some r → LX7_behind G p l e s m args below meth c r 26 [(0, .ref (gB G + v0)), (1, .int v1), (2, .int v2), (3, .int v3)] [] μ := by
  intro n
  induction n with
  | zero =>
    intro v0 v1 v2 v3 μ hf
    simp [fX7_behind_26] at hf
  | succ n ih =>
    intro v0 v1 v2 v3 μ hf
    rw [fX7_behind_26] at hf
    refine x_iload_n 3 dX7_behind_26 rfl ?_
    refine x_iload_n 1 dX7_behind_27 rfl ?_
    refine x_icmp_ge 43 dX7_behind_28 rfl (fun c9 => ?_) (fun c9 => ?_)
    · rw [if_pos c9] at hf
      refine x_aload_n 0 dX7_behind_43 rfl ?_
      obtain ⟨x10, h11, hf⟩ := bnd hf
      refine x_getR wF_X7_19 (by decide) (by decide) rfl h11 dX7_behind_44 ?_
      refine x_bipush 7 dX7_behind_47 (by decide) ?_
      refine x_iload_n 2 dX7_behind_49 rfl ?_
      refine x_iadd dX7_behind_50 ?_
      obtain ⟨x12, h13, hf⟩ := bnd hf
      refine x_iald h13 dX7_behind_51 ?_
      refine x_istore_n [1, 2, 3, 0] dX7_behind_52 (by decide) (lv' := [(0, .ref (gB G + v0)), (1, .int v1), (2, .int v2), (3, .int x12)]) rfl ?_
      refine x_aload_n 0 dX7_behind_53 rfl ?_
      obtain ⟨q14, h15, hf⟩ := bnd hf
      refine x_callVv (rest := []) [] (tX7_lets v0  μ h15) wY_X7_lets wI_X7_lets wS_X7_lets wL_X7_118 (grd_p h15) (by decide) rfl rfl (Nat.le_of_ble_eq_true rfl) ⟨Nat.le_of_ble_eq_true rfl, Nat.le_of_ble_eq_true rfl⟩ ⟨Nat.le_refl _, Nat.le_refl _⟩ dX7_behind_54 ?_
      refine x_iload_n 3 dX7_behind_57 rfl ?_
      refine x_iconst (-1) dX7_behind_58 (by decide) ?_
      refine x_icmp_ne 67 dX7_behind_59 rfl (fun c16 => ?_) (fun c16 => ?_)
      · rw [if_neg c16] at hf
        refine x_iload_n 3 dX7_behind_67 rfl ?_
        exact y_iret rfl rfl rfl hf dX7_behind_68
      · rw [if_pos c16] at hf
        refine x_bipush (-4) dX7_behind_62 (by decide) ?_
        refine x_goto 68 dX7_behind_64 rfl ?_
        exact y_iret rfl rfl rfl hf dX7_behind_68
    · rw [if_neg c9] at hf
      refine x_aload_n 0 dX7_behind_31 rfl ?_
      refine x_iconst 1 dX7_behind_32 (by decide) ?_
      obtain ⟨q17, h18, hf⟩ := bnd hf
      refine x_callVi (rest := []) [.int 1] (tX7_passes v0 1 μ h18) wY_X7_passes wI_X7_passes wS_X7_passes wL_X7_142 (grd_p h18) (by decide) rfl rfl (Nat.le_of_ble_eq_true rfl) ⟨Nat.le_of_ble_eq_true rfl, Nat.le_of_ble_eq_true rfl⟩ ⟨Nat.le_refl _, Nat.le_refl _⟩ dX7_behind_33 ?_
      refine x_pop dX7_behind_36 rfl ?_
      refine x_iinc 3 (v3 + 1) [1, 2, 3, 0] dX7_behind_37 rfl rfl (by decide) (lv' := [(0, .ref (gB G + v0)), (1, .int v1), (2, .int v2), (3, .int (v3 + 1))]) rfl ?_
      refine x_goto 26 dX7_behind_40 rfl ?_
      exact ih v0 v1 v2 (v3 + 1) q17.2 hf
def fX7_behind (a : Nat) (u1 : Int32) (u2 : Int32) (μ : Mu) : Option (Int32 × Mu) := grd (isO 7 a μ) ((fX7_in u1 0 60 μ).bind fun q1 =>
    (if q1.1 = 0 then
    some ((-1), q1.2)
    else
    (fX7_isHour a u2 q1.2).bind fun q4 =>
    (if q4.1 = 0 then
    some ((-1), q4.2)
    else
    (fX7_looks a  q4.2).bind fun q7 =>
    fX7_behind_26  FU a u1 u2 0 q7)))
set_option maxRecDepth 20000 in
theorem tX7_behind {G : Gm} {l : Launch} {r : Int32 × Mu} (a : Nat) (u1 : Int32) (u2 : Int32) (μ : Mu) (hf : fX7_behind a u1 u2 μ = some r) : Mt G l yX7_behind cX7_behind 4 (some .int) (3) 0 0 [.ref (gB G + a), .int u1, .int u2] μ (some (.int r.1)) r.2 := by
  rw [fX7_behind] at hf
  have hf := grd_v hf
  refine Mt.of (by decide) (Nat.le_of_ble_eq_true rfl) (fun p e s m args below meth c => ?_)
  show LX7_behind G p l e s m args below meth c r 0 [(0, .ref (gB G + a)), (1, .int u1), (2, .int u2)] [] μ
  refine x_iload_n 1 dX7_behind_0 rfl ?_
  refine x_iconst 0 dX7_behind_1 (by decide) ?_
  refine x_bipush 60 dX7_behind_2 (by decide) ?_
  obtain ⟨q1, h2, hf⟩ := bnd hf
  refine x_callSi (rest := []) [.int u1, .int 0, .int 60] (tX7_in u1 0 60 μ h2) wY_X7_in wT_X7_in wL_X7_56 rfl (Nat.le_of_ble_eq_true rfl) ⟨Nat.le_of_ble_eq_true rfl, Nat.le_of_ble_eq_true rfl⟩ ⟨Nat.le_refl _, Nat.le_refl _⟩ dX7_behind_4 ?_
  refine x_if_eq 18 dX7_behind_7 rfl (fun c3 => ?_) (fun c3 => ?_)
  · rw [if_pos c3] at hf
    refine x_iconst (-1) dX7_behind_18 (by decide) ?_
    exact y_iret rfl rfl rfl hf dX7_behind_19
  · rw [if_neg c3] at hf
    refine x_aload_n 0 dX7_behind_10 rfl ?_
    refine x_iload_n 2 dX7_behind_11 rfl ?_
    obtain ⟨q4, h5, hf⟩ := bnd hf
    refine x_callVi (rest := []) [.int u2] (tX7_isHour a u2 q1.2 h5) wY_X7_isHour wI_X7_isHour wS_X7_isHour wL_X7_133 (grd_p h5) (by decide) rfl rfl (Nat.le_of_ble_eq_true rfl) ⟨Nat.le_of_ble_eq_true rfl, Nat.le_of_ble_eq_true rfl⟩ ⟨Nat.le_refl _, Nat.le_refl _⟩ dX7_behind_12 ?_
    refine x_if_ne 20 dX7_behind_15 rfl (fun c6 => ?_) (fun c6 => ?_)
    · rw [if_neg c6] at hf
      refine x_aload_n 0 dX7_behind_20 rfl ?_
      obtain ⟨q7, h8, hf⟩ := bnd hf
      refine x_callVv (rest := []) [] (tX7_looks a  q4.2 h8) wY_X7_looks wI_X7_looks wS_X7_looks wL_X7_153 (grd_p h8) (by decide) rfl rfl (Nat.le_of_ble_eq_true rfl) ⟨Nat.le_of_ble_eq_true rfl, Nat.le_of_ble_eq_true rfl⟩ ⟨Nat.le_refl _, Nat.le_refl _⟩ dX7_behind_21 ?_
      refine x_iconst 0 dX7_behind_24 (by decide) ?_
      refine x_istore_n [1, 2, 3, 0] dX7_behind_25 (by decide) (lv' := [(0, .ref (gB G + a)), (1, .int u1), (2, .int u2), (3, .int 0)]) rfl ?_
      exact tX7_behind_26  FU a u1 u2 0 q7 hf
    · rw [if_pos c6] at hf
      refine x_iconst (-1) dX7_behind_18 (by decide) ?_
      exact y_iret rfl rfl rfl hf dX7_behind_19
abbrev LX7_aboveOf (G : Gm) (p : Program) (l : Launch) (e : Env) (s : State) (m : MethodId) (args : Array Value) (below : List Frame) (meth : Method) (c : Code) (r : Int32 × Mu) (pc : Nat) (lv : List (Nat × Value)) (st : List Value) (μ : Mu) : Prop := Lt G p l e { frames := 0, cells := 0, slots := 0, locals := 40 * (0) } s m args below meth c cX7_aboveOf 4 RX7 (some .int) "aboveOf" (MQ below (Qm G (some (.int r.1)) r.2 0) args s 0 0 (fA G)) 0 0 pc lv st μ
def fX7_aboveOf_4 : Nat → Nat → Int32 → Int32 → Int32 → Mu → Option (Int32 × Mu)
  | 0, _, _, _, _, _ => none
  | n + 1, v0, v1, v2, v3, μ => (if 7 ≤ v3 then
    some (v2, μ)
    else
    (gR 7 v0 4 μ).bind fun x2 =>
    (aI 8 x2 (7 + v1) μ).bind fun x4 =>
    (if x4 = (-1) then
    (fX7_aboveOf_4 n) v0 v1 (v2 ||| 0) (v3 + 1) μ
    else
    (gR 7 v0 4 μ).bind fun x7 =>
    (aI 8 x7 (7 + v3) μ).bind fun x9 =>
    (gR 7 v0 4 μ).bind fun x11 =>
    (aI 8 x11 (7 + v1) μ).bind fun x13 =>
    (if x9 = x13 then
    (gR 7 v0 4 μ).bind fun x16 =>
    (aI 8 x16 (14 + v3) μ).bind fun x18 =>
    (gR 7 v0 4 μ).bind fun x20 =>
    (aI 8 x20 (14 + v1) μ).bind fun x22 =>
    (if x18 ≤ x22 then
    (fX7_aboveOf_4 n) v0 v1 (v2 ||| 0) (v3 + 1) μ
    else
    (fX7_aboveOf_4 n) v0 v1 (v2 ||| (1 <<< (v3 &&& 31))) (v3 + 1) μ)
    else
    (fX7_aboveOf_4 n) v0 v1 (v2 ||| 0) (v3 + 1) μ)))
set_option maxRecDepth 20000 in
theorem tX7_aboveOf_4 {G : Gm} {p : Program} {l : Launch} {e : Env} {s : State} {m : MethodId} {args : Array Value} {below : List Frame} {meth : Method} {c : Code} {r : Int32 × Mu} : ∀ (n : Nat) (v0 : Nat) (v1 : Int32) (v2 : Int32) (v3 : Int32) (μ : Mu), fX7_aboveOf_4 n v0 v1 v2 v3 μ = some r → LX7_aboveOf G p l e s m args below meth c r 4 [(0, .ref (gB G + v0)), (1, .int v1), (2, .int v2), (3, .int v3)] [] μ := by
  intro n
  induction n with
  | zero =>
    intro v0 v1 v2 v3 μ hf
    simp [fX7_aboveOf_4] at hf
  | succ n ih =>
    intro v0 v1 v2 v3 μ hf
    rw [fX7_aboveOf_4] at hf
    refine x_iload_n 3 dX7_aboveOf_4 rfl ?_
    refine x_bipush 7 dX7_aboveOf_5 (by decide) ?_
    refine x_icmp_ge 81 dX7_aboveOf_7 rfl (fun c1 => ?_) (fun c1 => ?_)
    · rw [if_pos c1] at hf
      refine x_iload_n 2 dX7_aboveOf_81 rfl ?_
      exact y_iret rfl rfl rfl hf dX7_aboveOf_82
    · rw [if_neg c1] at hf
      refine x_iload_n 2 dX7_aboveOf_10 rfl ?_
      refine x_aload_n 0 dX7_aboveOf_11 rfl ?_
      obtain ⟨x2, h3, hf⟩ := bnd hf
      refine x_getR wF_X7_19 (by decide) (by decide) rfl h3 dX7_aboveOf_12 ?_
      refine x_bipush 7 dX7_aboveOf_15 (by decide) ?_
      refine x_iload_n 1 dX7_aboveOf_17 rfl ?_
      refine x_iadd dX7_aboveOf_18 ?_
      obtain ⟨x4, h5, hf⟩ := bnd hf
      refine x_iald h5 dX7_aboveOf_19 ?_
      refine x_iconst (-1) dX7_aboveOf_20 (by decide) ?_
      refine x_icmp_eq 72 dX7_aboveOf_21 rfl (fun c6 => ?_) (fun c6 => ?_)
      · rw [if_pos c6] at hf
        refine x_iconst 0 dX7_aboveOf_72 (by decide) ?_
        refine x_ior dX7_aboveOf_73 ?_
        refine x_istore_n [1, 2, 0, 3] dX7_aboveOf_74 (by decide) (lv' := [(0, .ref (gB G + v0)), (1, .int v1), (2, .int (v2 ||| 0)), (3, .int v3)]) rfl ?_
        refine x_iinc 3 (v3 + 1) [1, 2, 3, 0] dX7_aboveOf_75 rfl rfl (by decide) (lv' := [(0, .ref (gB G + v0)), (1, .int v1), (2, .int (v2 ||| 0)), (3, .int (v3 + 1))]) rfl ?_
        refine x_goto 4 dX7_aboveOf_78 rfl ?_
        exact ih v0 v1 (v2 ||| 0) (v3 + 1) μ hf
      · rw [if_neg c6] at hf
        refine x_aload_n 0 dX7_aboveOf_24 rfl ?_
        obtain ⟨x7, h8, hf⟩ := bnd hf
        refine x_getR wF_X7_19 (by decide) (by decide) rfl h8 dX7_aboveOf_25 ?_
        refine x_bipush 7 dX7_aboveOf_28 (by decide) ?_
        refine x_iload_n 3 dX7_aboveOf_30 rfl ?_
        refine x_iadd dX7_aboveOf_31 ?_
        obtain ⟨x9, h10, hf⟩ := bnd hf
        refine x_iald h10 dX7_aboveOf_32 ?_
        refine x_aload_n 0 dX7_aboveOf_33 rfl ?_
        obtain ⟨x11, h12, hf⟩ := bnd hf
        refine x_getR wF_X7_19 (by decide) (by decide) rfl h12 dX7_aboveOf_34 ?_
        refine x_bipush 7 dX7_aboveOf_37 (by decide) ?_
        refine x_iload_n 1 dX7_aboveOf_39 rfl ?_
        refine x_iadd dX7_aboveOf_40 ?_
        obtain ⟨x13, h14, hf⟩ := bnd hf
        refine x_iald h14 dX7_aboveOf_41 ?_
        refine x_icmp_ne 72 dX7_aboveOf_42 rfl (fun c15 => ?_) (fun c15 => ?_)
        · rw [if_neg c15] at hf
          refine x_iconst 0 dX7_aboveOf_72 (by decide) ?_
          refine x_ior dX7_aboveOf_73 ?_
          refine x_istore_n [1, 2, 0, 3] dX7_aboveOf_74 (by decide) (lv' := [(0, .ref (gB G + v0)), (1, .int v1), (2, .int (v2 ||| 0)), (3, .int v3)]) rfl ?_
          refine x_iinc 3 (v3 + 1) [1, 2, 3, 0] dX7_aboveOf_75 rfl rfl (by decide) (lv' := [(0, .ref (gB G + v0)), (1, .int v1), (2, .int (v2 ||| 0)), (3, .int (v3 + 1))]) rfl ?_
          refine x_goto 4 dX7_aboveOf_78 rfl ?_
          exact ih v0 v1 (v2 ||| 0) (v3 + 1) μ hf
        · rw [if_pos c15] at hf
          refine x_aload_n 0 dX7_aboveOf_45 rfl ?_
          obtain ⟨x16, h17, hf⟩ := bnd hf
          refine x_getR wF_X7_19 (by decide) (by decide) rfl h17 dX7_aboveOf_46 ?_
          refine x_bipush 14 dX7_aboveOf_49 (by decide) ?_
          refine x_iload_n 3 dX7_aboveOf_51 rfl ?_
          refine x_iadd dX7_aboveOf_52 ?_
          obtain ⟨x18, h19, hf⟩ := bnd hf
          refine x_iald h19 dX7_aboveOf_53 ?_
          refine x_aload_n 0 dX7_aboveOf_54 rfl ?_
          obtain ⟨x20, h21, hf⟩ := bnd hf
          refine x_getR wF_X7_19 (by decide) (by decide) rfl h21 dX7_aboveOf_55 ?_
          refine x_bipush 14 dX7_aboveOf_58 (by decide) ?_
          refine x_iload_n 1 dX7_aboveOf_60 rfl ?_
          refine x_iadd dX7_aboveOf_61 ?_
          obtain ⟨x22, h23, hf⟩ := bnd hf
          refine x_iald h23 dX7_aboveOf_62 ?_
          refine x_icmp_le 72 dX7_aboveOf_63 rfl (fun c24 => ?_) (fun c24 => ?_)
          · rw [if_pos c24] at hf
            refine x_iconst 0 dX7_aboveOf_72 (by decide) ?_
            refine x_ior dX7_aboveOf_73 ?_
            refine x_istore_n [1, 2, 0, 3] dX7_aboveOf_74 (by decide) (lv' := [(0, .ref (gB G + v0)), (1, .int v1), (2, .int (v2 ||| 0)), (3, .int v3)]) rfl ?_
            refine x_iinc 3 (v3 + 1) [1, 2, 3, 0] dX7_aboveOf_75 rfl rfl (by decide) (lv' := [(0, .ref (gB G + v0)), (1, .int v1), (2, .int (v2 ||| 0)), (3, .int (v3 + 1))]) rfl ?_
            refine x_goto 4 dX7_aboveOf_78 rfl ?_
            exact ih v0 v1 (v2 ||| 0) (v3 + 1) μ hf
          · rw [if_neg c24] at hf
            refine x_iconst 1 dX7_aboveOf_66 (by decide) ?_
            refine x_iload_n 3 dX7_aboveOf_67 rfl ?_
            refine x_ishl dX7_aboveOf_68 ?_
            refine x_goto 73 dX7_aboveOf_69 rfl ?_
            refine x_ior dX7_aboveOf_73 ?_
            refine x_istore_n [1, 2, 0, 3] dX7_aboveOf_74 (by decide) (lv' := [(0, .ref (gB G + v0)), (1, .int v1), (2, .int (v2 ||| (1 <<< (v3 &&& 31)))), (3, .int v3)]) rfl ?_
            refine x_iinc 3 (v3 + 1) [1, 2, 3, 0] dX7_aboveOf_75 rfl rfl (by decide) (lv' := [(0, .ref (gB G + v0)), (1, .int v1), (2, .int (v2 ||| (1 <<< (v3 &&& 31)))), (3, .int (v3 + 1))]) rfl ?_
            refine x_goto 4 dX7_aboveOf_78 rfl ?_
            exact ih v0 v1 (v2 ||| (1 <<< (v3 &&& 31))) (v3 + 1) μ hf
def fX7_aboveOf (a : Nat) (u1 : Int32) (μ : Mu) : Option (Int32 × Mu) := grd (isO 7 a μ) (fX7_aboveOf_4  FU a u1 0 0 μ)
set_option maxRecDepth 20000 in
theorem tX7_aboveOf {G : Gm} {l : Launch} {r : Int32 × Mu} (a : Nat) (u1 : Int32) (μ : Mu) (hf : fX7_aboveOf a u1 μ = some r) : Mt G l yX7_aboveOf cX7_aboveOf 4 (some .int) (0) 0 0 [.ref (gB G + a), .int u1] μ (some (.int r.1)) r.2 := by
  rw [fX7_aboveOf] at hf
  have hf := grd_v hf
  refine Mt.of (by decide) (Nat.le_of_ble_eq_true rfl) (fun p e s m args below meth c => ?_)
  show LX7_aboveOf G p l e s m args below meth c r 0 [(0, .ref (gB G + a)), (1, .int u1)] [] μ
  refine x_iconst 0 dX7_aboveOf_0 (by decide) ?_
  refine x_istore_n [1, 2, 0] dX7_aboveOf_1 (by decide) (lv' := [(0, .ref (gB G + a)), (1, .int u1), (2, .int 0)]) rfl ?_
  refine x_iconst 0 dX7_aboveOf_2 (by decide) ?_
  refine x_istore_n [1, 2, 3, 0] dX7_aboveOf_3 (by decide) (lv' := [(0, .ref (gB G + a)), (1, .int u1), (2, .int 0), (3, .int 0)]) rfl ?_
  exact tX7_aboveOf_4  FU a u1 0 0 μ hf
abbrev LX7_above (G : Gm) (p : Program) (l : Launch) (e : Env) (s : State) (m : MethodId) (args : Array Value) (below : List Frame) (meth : Method) (c : Code) (r : Int32 × Mu) (pc : Nat) (lv : List (Nat × Value)) (st : List Value) (μ : Mu) : Prop := Lt G p l e { frames := 2, cells := 0, slots := 0, locals := 40 * (2) } s m args below meth c cX7_above 2 RX7 (some .int) "above" (MQ below (Qm G (some (.int r.1)) r.2 0) args s 0 0 (fA G)) 0 0 pc lv st μ
def fX7_above (a : Nat) (u1 : Int32) (μ : Mu) : Option (Int32 × Mu) := grd (isO 7 a μ) ((fX7_isHour a u1 μ).bind fun q1 =>
    (if q1.1 = 0 then
    some ((-1), q1.2)
    else
    (fX7_aboveOf a u1 q1.2).bind fun q4 =>
    some (q4.1, q4.2)))
set_option maxRecDepth 20000 in
theorem tX7_above {G : Gm} {l : Launch} {r : Int32 × Mu} (a : Nat) (u1 : Int32) (μ : Mu) (hf : fX7_above a u1 μ = some r) : Mt G l yX7_above cX7_above 2 (some .int) (2) 0 0 [.ref (gB G + a), .int u1] μ (some (.int r.1)) r.2 := by
  rw [fX7_above] at hf
  have hf := grd_v hf
  refine Mt.of (by decide) (Nat.le_of_ble_eq_true rfl) (fun p e s m args below meth c => ?_)
  show LX7_above G p l e s m args below meth c r 0 [(0, .ref (gB G + a)), (1, .int u1)] [] μ
  refine x_aload_n 0 dX7_above_0 rfl ?_
  refine x_iload_n 1 dX7_above_1 rfl ?_
  obtain ⟨q1, h2, hf⟩ := bnd hf
  refine x_callVi (rest := []) [.int u1] (tX7_isHour a u1 μ h2) wY_X7_isHour wI_X7_isHour wS_X7_isHour wL_X7_133 (grd_p h2) (by decide) rfl rfl (Nat.le_of_ble_eq_true rfl) ⟨Nat.le_of_ble_eq_true rfl, Nat.le_of_ble_eq_true rfl⟩ ⟨Nat.le_refl _, Nat.le_refl _⟩ dX7_above_2 ?_
  refine x_if_eq 16 dX7_above_5 rfl (fun c3 => ?_) (fun c3 => ?_)
  · rw [if_pos c3] at hf
    refine x_iconst (-1) dX7_above_16 (by decide) ?_
    exact y_iret rfl rfl rfl hf dX7_above_17
  · rw [if_neg c3] at hf
    refine x_aload_n 0 dX7_above_8 rfl ?_
    refine x_iload_n 1 dX7_above_9 rfl ?_
    obtain ⟨q4, h5, hf⟩ := bnd hf
    refine x_callVi (rest := []) [.int u1] (tX7_aboveOf a u1 q1.2 h5) wY_X7_aboveOf wI_X7_aboveOf wS_X7_aboveOf wL_X7_156 (grd_p h5) (by decide) rfl rfl (Nat.le_of_ble_eq_true rfl) ⟨Nat.le_of_ble_eq_true rfl, Nat.le_of_ble_eq_true rfl⟩ ⟨Nat.le_refl _, Nat.le_refl _⟩ dX7_above_10 ?_
    refine x_goto 17 dX7_above_13 rfl ?_
    exact y_iret rfl rfl rfl hf dX7_above_17
abbrev LX7_marks (G : Gm) (p : Program) (l : Launch) (e : Env) (s : State) (m : MethodId) (args : Array Value) (below : List Frame) (meth : Method) (c : Code) (r : Mu) (pc : Nat) (lv : List (Nat × Value)) (st : List Value) (μ : Mu) : Prop := Lt G p l e { frames := 0, cells := 0, slots := 0, locals := 40 * (0) } s m args below meth c cX7_marks 2 RX7 none "marks" (MQ below (Qm G none r 0) args s 0 0 (fA G)) 0 0 pc lv st μ
def fX7_marks_2 : Nat → Nat → Int32 → Mu → Option (Mu)
  | 0, _, _, _ => none
  | n + 1, v0, v1, μ => (gR 7 v0 2 μ).bind fun x1 =>
    (aI 8 x1 1 μ).bind fun x3 =>
    (if x3 ≤ v1 then
    some μ
    else
    (gR 7 v0 13 μ).bind fun x6 =>
    (gR 7 v0 4 μ).bind fun x8 =>
    (aI 8 x8 (7 + v1) μ).bind fun x10 =>
    (bI 8 x6 v1 x10 μ).bind fun m12 =>
    (fX7_marks_2 n) v0 (v1 + 1) m12)
set_option maxRecDepth 20000 in
theorem tX7_marks_2 {G : Gm} {p : Program} {l : Launch} {e : Env} {s : State} {m : MethodId} {args : Array Value} {below : List Frame} {meth : Method} {c : Code} {r : Mu} : ∀ (n : Nat) (v0 : Nat) (v1 : Int32) (μ : Mu), fX7_marks_2 n v0 v1 μ = some r → LX7_marks G p l e s m args below meth c r 2 [(0, .ref (gB G + v0)), (1, .int v1)] [] μ := by
  intro n
  induction n with
  | zero =>
    intro v0 v1 μ hf
    simp [fX7_marks_2] at hf
  | succ n ih =>
    intro v0 v1 μ hf
    rw [fX7_marks_2] at hf
    refine x_iload_n 1 dX7_marks_2 rfl ?_
    refine x_aload_n 0 dX7_marks_3 rfl ?_
    obtain ⟨x1, h2, hf⟩ := bnd hf
    refine x_getR wF_X7_13 (by decide) (by decide) rfl h2 dX7_marks_4 ?_
    refine x_iconst 1 dX7_marks_7 (by decide) ?_
    obtain ⟨x3, h4, hf⟩ := bnd hf
    refine x_iald h4 dX7_marks_8 ?_
    refine x_icmp_ge 33 dX7_marks_9 rfl (fun c5 => ?_) (fun c5 => ?_)
    · rw [if_pos c5] at hf
      exact y_vret rfl rfl rfl hf dX7_marks_33
    · rw [if_neg c5] at hf
      refine x_aload_n 0 dX7_marks_12 rfl ?_
      obtain ⟨x6, h7, hf⟩ := bnd hf
      refine x_getR wF_X7_34 (by decide) (by decide) rfl h7 dX7_marks_13 ?_
      refine x_iload_n 1 dX7_marks_16 rfl ?_
      refine x_aload_n 0 dX7_marks_17 rfl ?_
      obtain ⟨x8, h9, hf⟩ := bnd hf
      refine x_getR wF_X7_19 (by decide) (by decide) rfl h9 dX7_marks_18 ?_
      refine x_bipush 7 dX7_marks_21 (by decide) ?_
      refine x_iload_n 1 dX7_marks_23 rfl ?_
      refine x_iadd dX7_marks_24 ?_
      obtain ⟨x10, h11, hf⟩ := bnd hf
      refine x_iald h11 dX7_marks_25 ?_
      obtain ⟨m12, h13, hf⟩ := bnd hf
      refine x_iast h13 dX7_marks_26 ?_
      refine x_iinc 1 (v1 + 1) [1, 0] dX7_marks_27 rfl rfl (by decide) (lv' := [(0, .ref (gB G + v0)), (1, .int (v1 + 1))]) rfl ?_
      refine x_goto 2 dX7_marks_30 rfl ?_
      exact ih v0 (v1 + 1) m12 hf
def fX7_marks (a : Nat) (μ : Mu) : Option (Mu) := grd (isO 7 a μ) (fX7_marks_2  FU a 0 μ)
set_option maxRecDepth 20000 in
theorem tX7_marks {G : Gm} {l : Launch} {r : Mu} (a : Nat) (μ : Mu) (hf : fX7_marks a μ = some r) : Mt G l yX7_marks cX7_marks 2 none (0) 0 0 [.ref (gB G + a)] μ none r := by
  rw [fX7_marks] at hf
  have hf := grd_v hf
  refine Mt.of (by decide) (Nat.le_of_ble_eq_true rfl) (fun p e s m args below meth c => ?_)
  show LX7_marks G p l e s m args below meth c r 0 [(0, .ref (gB G + a))] [] μ
  refine x_iconst 0 dX7_marks_0 (by decide) ?_
  refine x_istore_n [1, 0] dX7_marks_1 (by decide) (lv' := [(0, .ref (gB G + a)), (1, .int 0)]) rfl ?_
  exact tX7_marks_2  FU a 0 μ hf
abbrev LX7_packed (G : Gm) (p : Program) (l : Launch) (e : Env) (s : State) (m : MethodId) (args : Array Value) (below : List Frame) (meth : Method) (c : Code) (r : Int32 × Mu) (pc : Nat) (lv : List (Nat × Value)) (st : List Value) (μ : Mu) : Prop := Lt G p l e { frames := 4, cells := 0, slots := 0, locals := 40 * (4) } s m args below meth c cX7_packed 7 RX7 (some .int) "packed" (MQ below (Qm G (some (.int r.1)) r.2 0) args s 0 0 (fA G)) 0 0 pc lv st μ
def fX7_packed_266 (k111 : Nat → Int32 → Int32 → Int32 → Int32 → Mu → Option (Int32 × Mu)) (v0 : Nat) (v1 : Int32) (v2 : Int32) (v3 : Int32) (v4 : Int32) (v6 : Int32) (μ : Mu) : Option (Int32 × Mu) := (gR 7 v0 2 μ).bind fun x33 =>
    (aI 8 x33 0 μ).bind fun x35 =>
    (if x35 < v6 then
    k111 v0 v1 v2 v3 (v4 + (-1)) μ
    else
    (gR 7 v0 16 μ).bind fun x38 =>
    (aI 8 x38 v4 μ).bind fun x40 =>
    (if v2 < (v3 + x40) then
    (gR 7 v0 15 μ).bind fun x43 =>
    (bI 8 x43 v4 v6 μ).bind fun m45 =>
    (gR 7 v0 2 m45).bind fun x47 =>
    (aI 8 x47 0 m45).bind fun x49 =>
    (if x49 ≤ v6 then
    (gR 7 v0 15 m45).bind fun x52 =>
    (bI 8 x52 (v4 + 1) (-1) m45).bind fun m54 =>
    k111 v0 v1 v2 v3 (v4 + 1) m54
    else
    (gR 7 v0 14 m45).bind fun x56 =>
    (aI 8 x56 v4 m45).bind fun x58 =>
    (fX7_lays v0 x58 v6 m45).bind fun q60 =>
    (gR 7 v0 2 q60).bind fun x62 =>
    (gR 7 v0 14 q60).bind fun x64 =>
    (aI 8 x64 v4 q60).bind fun x66 =>
    (aI 8 x62 (9 + x66) q60).bind fun x68 =>
    (gR 7 v0 15 q60).bind fun x70 =>
    (bI 8 x70 (v4 + 1) (-1) q60).bind fun m72 =>
    k111 v0 v1 v2 (v3 + x68) (v4 + 1) m72)
    else
    k111 v0 v1 v2 v3 (v4 + (-1)) μ))
set_option maxRecDepth 20000 in
theorem tX7_packed_266 {G : Gm} {p : Program} {l : Launch} {e : Env} {s : State} {m : MethodId} {args : Array Value} {below : List Frame} {meth : Method} {c : Code} {r : Int32 × Mu} {k111 : Nat → Int32 → Int32 → Int32 → Int32 → Mu → Option (Int32 × Mu)} (hk111 : ∀ (v0 : Nat) (v1 : Int32) (v2 : Int32) (v3 : Int32) (v4 : Int32) (μ : Mu), k111 v0 v1 v2 v3 v4 μ = some r → LX7_packed G p l e s m args below meth c r 111 [(0, .ref (gB G + v0)), (1, .int v1), (2, .int v2), (3, .int v3), (4, .int v4)] [] μ) (v0 : Nat) (v1 : Int32) (v2 : Int32) (v3 : Int32) (v4 : Int32) (v6 : Int32) (μ : Mu) (hf : fX7_packed_266 k111 v0 v1 v2 v3 v4 v6 μ = some r) : LX7_packed G p l e s m args below meth c r 266 [(0, .ref (gB G + v0)), (1, .int v1), (2, .int v2), (3, .int v3), (4, .int v4), (6, .int v6)] [] μ := by
  rw [fX7_packed_266] at hf
  refine x_iload 5 dX7_packed_266 rfl ?_
  refine x_aload_n 0 dX7_packed_268 rfl ?_
  obtain ⟨x33, h34, hf⟩ := bnd hf
  refine x_getR wF_X7_13 (by decide) (by decide) rfl h34 dX7_packed_269 ?_
  refine x_iconst 0 dX7_packed_272 (by decide) ?_
  obtain ⟨x35, h36, hf⟩ := bnd hf
  refine x_iald h36 dX7_packed_273 ?_
  refine x_icmp_gt 290 dX7_packed_274 rfl (fun c37 => ?_) (fun c37 => ?_)
  · rw [if_pos c37] at hf
    refine x_iinc 4 (v4 + (-1)) [1, 2, 3, 4, 0, 5] dX7_packed_290 rfl rfl (by decide) (lv' := [(0, .ref (gB G + v0)), (1, .int v1), (2, .int v2), (3, .int v3), (4, .int (v4 + (-1))), (6, .int v6)]) rfl ?_
    refine x_goto 358 dX7_packed_293 rfl ?_
    refine x_goto 111 dX7_packed_358 rfl ?_
    refine x_sub [0, 1, 2, 3, 4] (lv' := [(0, .ref (gB G + v0)), (1, .int v1), (2, .int v2), (3, .int v3), (4, .int (v4 + (-1)))]) rfl ?_
    exact hk111 v0 v1 v2 v3 (v4 + (-1)) μ hf
  · rw [if_neg c37] at hf
    refine x_iload_n 3 dX7_packed_277 rfl ?_
    refine x_aload_n 0 dX7_packed_278 rfl ?_
    obtain ⟨x38, h39, hf⟩ := bnd hf
    refine x_getR wF_X7_43 (by decide) (by decide) rfl h39 dX7_packed_279 ?_
    refine x_iload 4 dX7_packed_282 rfl ?_
    obtain ⟨x40, h41, hf⟩ := bnd hf
    refine x_iald h41 dX7_packed_284 ?_
    refine x_iadd dX7_packed_285 ?_
    refine x_iload_n 2 dX7_packed_286 rfl ?_
    refine x_icmp_gt 296 dX7_packed_287 rfl (fun c42 => ?_) (fun c42 => ?_)
    · rw [if_pos c42] at hf
      refine x_aload_n 0 dX7_packed_296 rfl ?_
      obtain ⟨x43, h44, hf⟩ := bnd hf
      refine x_getR wF_X7_40 (by decide) (by decide) rfl h44 dX7_packed_297 ?_
      refine x_iload 4 dX7_packed_300 rfl ?_
      refine x_iload 5 dX7_packed_302 rfl ?_
      obtain ⟨m45, h46, hf⟩ := bnd hf
      refine x_iast h46 dX7_packed_304 ?_
      refine x_iload 5 dX7_packed_305 rfl ?_
      refine x_aload_n 0 dX7_packed_307 rfl ?_
      obtain ⟨x47, h48, hf⟩ := bnd hf
      refine x_getR wF_X7_13 (by decide) (by decide) rfl h48 dX7_packed_308 ?_
      refine x_iconst 0 dX7_packed_311 (by decide) ?_
      obtain ⟨x49, h50, hf⟩ := bnd hf
      refine x_iald h50 dX7_packed_312 ?_
      refine x_icmp_ge 347 dX7_packed_313 rfl (fun c51 => ?_) (fun c51 => ?_)
      · rw [if_pos c51] at hf
        refine x_iinc 4 (v4 + 1) [1, 2, 3, 4, 0, 5] dX7_packed_347 rfl rfl (by decide) (lv' := [(0, .ref (gB G + v0)), (1, .int v1), (2, .int v2), (3, .int v3), (4, .int (v4 + 1)), (6, .int v6)]) rfl ?_
        refine x_aload_n 0 dX7_packed_350 rfl ?_
        obtain ⟨x52, h53, hf⟩ := bnd hf
        refine x_getR wF_X7_40 (by decide) (by decide) rfl h53 dX7_packed_351 ?_
        refine x_iload 4 dX7_packed_354 rfl ?_
        refine x_iconst (-1) dX7_packed_356 (by decide) ?_
        obtain ⟨m54, h55, hf⟩ := bnd hf
        refine x_iast h55 dX7_packed_357 ?_
        refine x_goto 111 dX7_packed_358 rfl ?_
        refine x_sub [0, 1, 2, 3, 4] (lv' := [(0, .ref (gB G + v0)), (1, .int v1), (2, .int v2), (3, .int v3), (4, .int (v4 + 1))]) rfl ?_
        exact hk111 v0 v1 v2 v3 (v4 + 1) m54 hf
      · rw [if_neg c51] at hf
        refine x_aload_n 0 dX7_packed_316 rfl ?_
        refine x_aload_n 0 dX7_packed_317 rfl ?_
        obtain ⟨x56, h57, hf⟩ := bnd hf
        refine x_getR wF_X7_37 (by decide) (by decide) rfl h57 dX7_packed_318 ?_
        refine x_iload 4 dX7_packed_321 rfl ?_
        obtain ⟨x58, h59, hf⟩ := bnd hf
        refine x_iald h59 dX7_packed_323 ?_
        refine x_iload 5 dX7_packed_324 rfl ?_
        obtain ⟨q60, h61, hf⟩ := bnd hf
        refine x_callVv (rest := []) [.int x58, .int v6] (tX7_lays v0 x58 v6 m45 h61) wY_X7_lays wI_X7_lays wS_X7_lays wL_X7_95 (grd_p h61) (by decide) rfl rfl (Nat.le_of_ble_eq_true rfl) ⟨Nat.le_of_ble_eq_true rfl, Nat.le_of_ble_eq_true rfl⟩ ⟨Nat.le_refl _, Nat.le_refl _⟩ dX7_packed_326 ?_
        refine x_iload_n 3 dX7_packed_329 rfl ?_
        refine x_aload_n 0 dX7_packed_330 rfl ?_
        obtain ⟨x62, h63, hf⟩ := bnd hf
        refine x_getR wF_X7_13 (by decide) (by decide) rfl h63 dX7_packed_331 ?_
        refine x_bipush 9 dX7_packed_334 (by decide) ?_
        refine x_aload_n 0 dX7_packed_336 rfl ?_
        obtain ⟨x64, h65, hf⟩ := bnd hf
        refine x_getR wF_X7_37 (by decide) (by decide) rfl h65 dX7_packed_337 ?_
        refine x_iload 4 dX7_packed_340 rfl ?_
        obtain ⟨x66, h67, hf⟩ := bnd hf
        refine x_iald h67 dX7_packed_342 ?_
        refine x_iadd dX7_packed_343 ?_
        obtain ⟨x68, h69, hf⟩ := bnd hf
        refine x_iald h69 dX7_packed_344 ?_
        refine x_iadd dX7_packed_345 ?_
        refine x_istore_n [1, 2, 3, 0, 4, 5] dX7_packed_346 (by decide) (lv' := [(0, .ref (gB G + v0)), (1, .int v1), (2, .int v2), (3, .int (v3 + x68)), (4, .int v4), (6, .int v6)]) rfl ?_
        refine x_iinc 4 (v4 + 1) [1, 2, 3, 4, 0, 5] dX7_packed_347 rfl rfl (by decide) (lv' := [(0, .ref (gB G + v0)), (1, .int v1), (2, .int v2), (3, .int (v3 + x68)), (4, .int (v4 + 1)), (6, .int v6)]) rfl ?_
        refine x_aload_n 0 dX7_packed_350 rfl ?_
        obtain ⟨x70, h71, hf⟩ := bnd hf
        refine x_getR wF_X7_40 (by decide) (by decide) rfl h71 dX7_packed_351 ?_
        refine x_iload 4 dX7_packed_354 rfl ?_
        refine x_iconst (-1) dX7_packed_356 (by decide) ?_
        obtain ⟨m72, h73, hf⟩ := bnd hf
        refine x_iast h73 dX7_packed_357 ?_
        refine x_goto 111 dX7_packed_358 rfl ?_
        refine x_sub [0, 1, 2, 3, 4] (lv' := [(0, .ref (gB G + v0)), (1, .int v1), (2, .int v2), (3, .int (v3 + x68)), (4, .int (v4 + 1))]) rfl ?_
        exact hk111 v0 v1 v2 (v3 + x68) (v4 + 1) m72 hf
    · rw [if_neg c42] at hf
      refine x_iinc 4 (v4 + (-1)) [1, 2, 3, 4, 0, 5] dX7_packed_290 rfl rfl (by decide) (lv' := [(0, .ref (gB G + v0)), (1, .int v1), (2, .int v2), (3, .int v3), (4, .int (v4 + (-1))), (6, .int v6)]) rfl ?_
      refine x_goto 358 dX7_packed_293 rfl ?_
      refine x_goto 111 dX7_packed_358 rfl ?_
      refine x_sub [0, 1, 2, 3, 4] (lv' := [(0, .ref (gB G + v0)), (1, .int v1), (2, .int v2), (3, .int v3), (4, .int (v4 + (-1)))]) rfl ?_
      exact hk111 v0 v1 v2 v3 (v4 + (-1)) μ hf
def fX7_packed_233 (k111 : Nat → Int32 → Int32 → Int32 → Int32 → Mu → Option (Int32 × Mu)) : Nat → Nat → Int32 → Int32 → Int32 → Int32 → Int32 → Mu → Option (Int32 × Mu)
  | 0, _, _, _, _, _, _, _ => none
  | n + 1, v0, v1, v2, v3, v4, v6, μ => (gR 7 v0 2 μ).bind fun x28 =>
    (aI 8 x28 0 μ).bind fun x30 =>
    (if x30 ≤ v6 then
    fX7_packed_266 k111 v0 v1 v2 v3 v4 v6 μ
    else
    (gR 7 v0 14 μ).bind fun x74 =>
    (aI 8 x74 v4 μ).bind fun x76 =>
    (fX7_mayPut v0 x76 v6 μ).bind fun q78 =>
    (if q78.1 = 0 then
    (fX7_packed_233 k111 n) v0 v1 v2 v3 v4 (v6 + 1) q78.2
    else
    fX7_packed_266 k111 v0 v1 v2 v3 v4 v6 q78.2))
set_option maxRecDepth 20000 in
theorem tX7_packed_233 {G : Gm} {p : Program} {l : Launch} {e : Env} {s : State} {m : MethodId} {args : Array Value} {below : List Frame} {meth : Method} {c : Code} {r : Int32 × Mu} {k111 : Nat → Int32 → Int32 → Int32 → Int32 → Mu → Option (Int32 × Mu)} (hk111 : ∀ (v0 : Nat) (v1 : Int32) (v2 : Int32) (v3 : Int32) (v4 : Int32) (μ : Mu), k111 v0 v1 v2 v3 v4 μ = some r → LX7_packed G p l e s m args below meth c r 111 [(0, .ref (gB G + v0)), (1, .int v1), (2, .int v2), (3, .int v3), (4, .int v4)] [] μ) : ∀ (n : Nat) (v0 : Nat) (v1 : Int32) (v2 : Int32) (v3 : Int32) (v4 : Int32) (v6 : Int32) (μ : Mu), fX7_packed_233 k111 n v0 v1 v2 v3 v4 v6 μ = some r → LX7_packed G p l e s m args below meth c r 233 [(0, .ref (gB G + v0)), (1, .int v1), (2, .int v2), (3, .int v3), (4, .int v4), (6, .int v6)] [] μ := by
  intro n
  induction n with
  | zero =>
    intro v0 v1 v2 v3 v4 v6 μ hf
    simp [fX7_packed_233] at hf
  | succ n ih =>
    intro v0 v1 v2 v3 v4 v6 μ hf
    rw [fX7_packed_233] at hf
    refine x_iload 5 dX7_packed_233 rfl ?_
    refine x_aload_n 0 dX7_packed_235 rfl ?_
    obtain ⟨x28, h29, hf⟩ := bnd hf
    refine x_getR wF_X7_13 (by decide) (by decide) rfl h29 dX7_packed_236 ?_
    refine x_iconst 0 dX7_packed_239 (by decide) ?_
    obtain ⟨x30, h31, hf⟩ := bnd hf
    refine x_iald h31 dX7_packed_240 ?_
    refine x_icmp_ge 266 dX7_packed_241 rfl (fun c32 => ?_) (fun c32 => ?_)
    · rw [if_pos c32] at hf
      exact tX7_packed_266 hk111 v0 v1 v2 v3 v4 v6 μ hf
    · rw [if_neg c32] at hf
      refine x_aload_n 0 dX7_packed_244 rfl ?_
      refine x_aload_n 0 dX7_packed_245 rfl ?_
      obtain ⟨x74, h75, hf⟩ := bnd hf
      refine x_getR wF_X7_37 (by decide) (by decide) rfl h75 dX7_packed_246 ?_
      refine x_iload 4 dX7_packed_249 rfl ?_
      obtain ⟨x76, h77, hf⟩ := bnd hf
      refine x_iald h77 dX7_packed_251 ?_
      refine x_iload 5 dX7_packed_252 rfl ?_
      obtain ⟨q78, h79, hf⟩ := bnd hf
      refine x_callVi (rest := []) [.int x76, .int v6] (tX7_mayPut v0 x76 v6 μ h79) wY_X7_mayPut wI_X7_mayPut wS_X7_mayPut wL_X7_145 (grd_p h79) (by decide) rfl rfl (Nat.le_of_ble_eq_true rfl) ⟨Nat.le_of_ble_eq_true rfl, Nat.le_of_ble_eq_true rfl⟩ ⟨Nat.le_refl _, Nat.le_refl _⟩ dX7_packed_254 ?_
      refine x_if_ne 266 dX7_packed_257 rfl (fun c80 => ?_) (fun c80 => ?_)
      · rw [if_neg c80] at hf
        exact tX7_packed_266 hk111 v0 v1 v2 v3 v4 v6 q78.2 hf
      · rw [if_pos c80] at hf
        refine x_iinc 5 (v6 + 1) [1, 2, 3, 4, 5, 0] dX7_packed_260 rfl rfl (by decide) (lv' := [(0, .ref (gB G + v0)), (1, .int v1), (2, .int v2), (3, .int v3), (4, .int v4), (6, .int (v6 + 1))]) rfl ?_
        refine x_goto 233 dX7_packed_263 rfl ?_
        exact ih v0 v1 v2 v3 v4 (v6 + 1) q78.2 hf
def fX7_packed_170 (k111 : Nat → Int32 → Int32 → Int32 → Int32 → Mu → Option (Int32 × Mu)) (v0 : Nat) (v1 : Int32) (v2 : Int32) (v3 : Int32) (v4 : Int32) (v5 : Int32) (s0 : Int32) (μ : Mu) : Option (Int32 × Mu) := (if v5 = 0 then
    (gR 7 v0 15 μ).bind fun x81 =>
    (aI 8 x81 v4 μ).bind fun x83 =>
    (if x83 < 0 then
    fX7_packed_233 k111 FU v0 v1 v2 v3 v4 s0 μ
    else
    (gR 7 v0 15 μ).bind fun x86 =>
    (aI 8 x86 v4 μ).bind fun x88 =>
    (gR 7 v0 2 μ).bind fun x90 =>
    (aI 8 x90 0 μ).bind fun x92 =>
    (if x92 ≤ x88 then
    fX7_packed_233 k111 FU v0 v1 v2 v3 v4 s0 μ
    else
    (gR 7 v0 14 μ).bind fun x95 =>
    (aI 8 x95 v4 μ).bind fun x97 =>
    (fX7_takes v0 x97 μ).bind fun q99 =>
    (gR 7 v0 2 q99.2).bind fun x101 =>
    (gR 7 v0 14 q99.2).bind fun x103 =>
    (aI 8 x103 v4 q99.2).bind fun x105 =>
    (aI 8 x101 (9 + x105) q99.2).bind fun x107 =>
    fX7_packed_233 k111 FU v0 v1 v2 (v3 - x107) v4 s0 q99.2))
    else
    fX7_packed_233 k111 FU v0 v1 v2 v3 v4 s0 μ)
set_option maxRecDepth 20000 in
theorem tX7_packed_170 {G : Gm} {p : Program} {l : Launch} {e : Env} {s : State} {m : MethodId} {args : Array Value} {below : List Frame} {meth : Method} {c : Code} {r : Int32 × Mu} {k111 : Nat → Int32 → Int32 → Int32 → Int32 → Mu → Option (Int32 × Mu)} (hk111 : ∀ (v0 : Nat) (v1 : Int32) (v2 : Int32) (v3 : Int32) (v4 : Int32) (μ : Mu), k111 v0 v1 v2 v3 v4 μ = some r → LX7_packed G p l e s m args below meth c r 111 [(0, .ref (gB G + v0)), (1, .int v1), (2, .int v2), (3, .int v3), (4, .int v4)] [] μ) (v0 : Nat) (v1 : Int32) (v2 : Int32) (v3 : Int32) (v4 : Int32) (v5 : Int32) (s0 : Int32) (μ : Mu) (hf : fX7_packed_170 k111 v0 v1 v2 v3 v4 v5 s0 μ = some r) : LX7_packed G p l e s m args below meth c r 170 [(0, .ref (gB G + v0)), (1, .int v1), (2, .int v2), (3, .int v3), (4, .int v4), (5, .int v5)] [.int s0] μ := by
  rw [fX7_packed_170] at hf
  refine x_istore [1, 2, 3, 4, 5, 6, 0] dX7_packed_170 (by decide) (lv' := [(0, .ref (gB G + v0)), (1, .int v1), (2, .int v2), (3, .int v3), (4, .int v4), (5, .int v5), (6, .int s0)]) rfl ?_
  refine x_iload 5 dX7_packed_172 rfl ?_
  refine x_if_ne 233 dX7_packed_174 rfl (fun c27 => ?_) (fun c27 => ?_)
  · rw [if_neg c27] at hf
    refine x_sub [0, 1, 2, 3, 4, 6] (lv' := [(0, .ref (gB G + v0)), (1, .int v1), (2, .int v2), (3, .int v3), (4, .int v4), (6, .int s0)]) rfl ?_
    exact tX7_packed_233 hk111 FU v0 v1 v2 v3 v4 s0 μ hf
  · rw [if_pos c27] at hf
    refine x_aload_n 0 dX7_packed_177 rfl ?_
    obtain ⟨x81, h82, hf⟩ := bnd hf
    refine x_getR wF_X7_40 (by decide) (by decide) rfl h82 dX7_packed_178 ?_
    refine x_iload 4 dX7_packed_181 rfl ?_
    obtain ⟨x83, h84, hf⟩ := bnd hf
    refine x_iald h84 dX7_packed_183 ?_
    refine x_if_lt 233 dX7_packed_184 rfl (fun c85 => ?_) (fun c85 => ?_)
    · rw [if_pos c85] at hf
      refine x_sub [0, 1, 2, 3, 4, 6] (lv' := [(0, .ref (gB G + v0)), (1, .int v1), (2, .int v2), (3, .int v3), (4, .int v4), (6, .int s0)]) rfl ?_
      exact tX7_packed_233 hk111 FU v0 v1 v2 v3 v4 s0 μ hf
    · rw [if_neg c85] at hf
      refine x_aload_n 0 dX7_packed_187 rfl ?_
      obtain ⟨x86, h87, hf⟩ := bnd hf
      refine x_getR wF_X7_40 (by decide) (by decide) rfl h87 dX7_packed_188 ?_
      refine x_iload 4 dX7_packed_191 rfl ?_
      obtain ⟨x88, h89, hf⟩ := bnd hf
      refine x_iald h89 dX7_packed_193 ?_
      refine x_aload_n 0 dX7_packed_194 rfl ?_
      obtain ⟨x90, h91, hf⟩ := bnd hf
      refine x_getR wF_X7_13 (by decide) (by decide) rfl h91 dX7_packed_195 ?_
      refine x_iconst 0 dX7_packed_198 (by decide) ?_
      obtain ⟨x92, h93, hf⟩ := bnd hf
      refine x_iald h93 dX7_packed_199 ?_
      refine x_icmp_ge 233 dX7_packed_200 rfl (fun c94 => ?_) (fun c94 => ?_)
      · rw [if_pos c94] at hf
        refine x_sub [0, 1, 2, 3, 4, 6] (lv' := [(0, .ref (gB G + v0)), (1, .int v1), (2, .int v2), (3, .int v3), (4, .int v4), (6, .int s0)]) rfl ?_
        exact tX7_packed_233 hk111 FU v0 v1 v2 v3 v4 s0 μ hf
      · rw [if_neg c94] at hf
        refine x_aload_n 0 dX7_packed_203 rfl ?_
        refine x_aload_n 0 dX7_packed_204 rfl ?_
        obtain ⟨x95, h96, hf⟩ := bnd hf
        refine x_getR wF_X7_37 (by decide) (by decide) rfl h96 dX7_packed_205 ?_
        refine x_iload 4 dX7_packed_208 rfl ?_
        obtain ⟨x97, h98, hf⟩ := bnd hf
        refine x_iald h98 dX7_packed_210 ?_
        obtain ⟨q99, h100, hf⟩ := bnd hf
        refine x_callVi (rest := []) [.int x97] (tX7_takes v0 x97 μ h100) wY_X7_takes wI_X7_takes wS_X7_takes wL_X7_136 (grd_p h100) (by decide) rfl rfl (Nat.le_of_ble_eq_true rfl) ⟨Nat.le_of_ble_eq_true rfl, Nat.le_of_ble_eq_true rfl⟩ ⟨Nat.le_refl _, Nat.le_refl _⟩ dX7_packed_211 ?_
        refine x_pop dX7_packed_214 rfl ?_
        refine x_iload_n 3 dX7_packed_215 rfl ?_
        refine x_aload_n 0 dX7_packed_216 rfl ?_
        obtain ⟨x101, h102, hf⟩ := bnd hf
        refine x_getR wF_X7_13 (by decide) (by decide) rfl h102 dX7_packed_217 ?_
        refine x_bipush 9 dX7_packed_220 (by decide) ?_
        refine x_aload_n 0 dX7_packed_222 rfl ?_
        obtain ⟨x103, h104, hf⟩ := bnd hf
        refine x_getR wF_X7_37 (by decide) (by decide) rfl h104 dX7_packed_223 ?_
        refine x_iload 4 dX7_packed_226 rfl ?_
        obtain ⟨x105, h106, hf⟩ := bnd hf
        refine x_iald h106 dX7_packed_228 ?_
        refine x_iadd dX7_packed_229 ?_
        obtain ⟨x107, h108, hf⟩ := bnd hf
        refine x_iald h108 dX7_packed_230 ?_
        refine x_isub dX7_packed_231 ?_
        refine x_istore_n [1, 2, 3, 0, 4, 5, 6] dX7_packed_232 (by decide) (lv' := [(0, .ref (gB G + v0)), (1, .int v1), (2, .int v2), (3, .int (v3 - x107)), (4, .int v4), (5, .int v5), (6, .int s0)]) rfl ?_
        refine x_sub [0, 1, 2, 3, 4, 6] (lv' := [(0, .ref (gB G + v0)), (1, .int v1), (2, .int v2), (3, .int (v3 - x107)), (4, .int v4), (6, .int s0)]) rfl ?_
        exact tX7_packed_233 hk111 FU v0 v1 v2 (v3 - x107) v4 s0 q99.2 hf
def fX7_packed_145 (k111 : Nat → Int32 → Int32 → Int32 → Int32 → Mu → Option (Int32 × Mu)) (v0 : Nat) (v1 : Int32) (v2 : Int32) (v3 : Int32) (v4 : Int32) (v5 : Int32) (μ : Mu) : Option (Int32 × Mu) := (if v5 = 0 then
    (gR 7 v0 15 μ).bind fun x23 =>
    (aI 8 x23 v4 μ).bind fun x25 =>
    fX7_packed_170 k111 v0 v1 v2 v3 v4 v5 (x25 + 1) μ
    else
    (gR 7 v0 2 μ).bind fun x109 =>
    (aI 8 x109 0 μ).bind fun x111 =>
    fX7_packed_170 k111 v0 v1 v2 v3 v4 v5 (x111 + 1) μ)
set_option maxRecDepth 20000 in
theorem tX7_packed_145 {G : Gm} {p : Program} {l : Launch} {e : Env} {s : State} {m : MethodId} {args : Array Value} {below : List Frame} {meth : Method} {c : Code} {r : Int32 × Mu} {k111 : Nat → Int32 → Int32 → Int32 → Int32 → Mu → Option (Int32 × Mu)} (hk111 : ∀ (v0 : Nat) (v1 : Int32) (v2 : Int32) (v3 : Int32) (v4 : Int32) (μ : Mu), k111 v0 v1 v2 v3 v4 μ = some r → LX7_packed G p l e s m args below meth c r 111 [(0, .ref (gB G + v0)), (1, .int v1), (2, .int v2), (3, .int v3), (4, .int v4)] [] μ) (v0 : Nat) (v1 : Int32) (v2 : Int32) (v3 : Int32) (v4 : Int32) (v5 : Int32) (μ : Mu) (hf : fX7_packed_145 k111 v0 v1 v2 v3 v4 v5 μ = some r) : LX7_packed G p l e s m args below meth c r 145 [(0, .ref (gB G + v0)), (1, .int v1), (2, .int v2), (3, .int v3), (4, .int v4), (5, .int v5)] [] μ := by
  rw [fX7_packed_145] at hf
  refine x_iload 5 dX7_packed_145 rfl ?_
  refine x_if_eq 161 dX7_packed_147 rfl (fun c22 => ?_) (fun c22 => ?_)
  · rw [if_pos c22] at hf
    refine x_aload_n 0 dX7_packed_161 rfl ?_
    obtain ⟨x23, h24, hf⟩ := bnd hf
    refine x_getR wF_X7_40 (by decide) (by decide) rfl h24 dX7_packed_162 ?_
    refine x_iload 4 dX7_packed_165 rfl ?_
    obtain ⟨x25, h26, hf⟩ := bnd hf
    refine x_iald h26 dX7_packed_167 ?_
    refine x_iconst 1 dX7_packed_168 (by decide) ?_
    refine x_iadd dX7_packed_169 ?_
    exact tX7_packed_170 hk111 v0 v1 v2 v3 v4 v5 (x25 + 1) μ hf
  · rw [if_neg c22] at hf
    refine x_aload_n 0 dX7_packed_150 rfl ?_
    obtain ⟨x109, h110, hf⟩ := bnd hf
    refine x_getR wF_X7_13 (by decide) (by decide) rfl h110 dX7_packed_151 ?_
    refine x_iconst 0 dX7_packed_154 (by decide) ?_
    obtain ⟨x111, h112, hf⟩ := bnd hf
    refine x_iald h112 dX7_packed_155 ?_
    refine x_iconst 1 dX7_packed_156 (by decide) ?_
    refine x_iadd dX7_packed_157 ?_
    refine x_goto 170 dX7_packed_158 rfl ?_
    exact tX7_packed_170 hk111 v0 v1 v2 v3 v4 v5 (x111 + 1) μ hf
def fX7_packed_127 (k111 : Nat → Int32 → Int32 → Int32 → Int32 → Mu → Option (Int32 × Mu)) (v0 : Nat) (v1 : Int32) (v2 : Int32) (v3 : Int32) (v4 : Int32) (s0 : Int32) (μ : Mu) : Option (Int32 × Mu) := (if s0 = 0 then
    fX7_packed_145 k111 v0 v1 v2 v3 v4 s0 μ
    else
    (if v3 ≤ v2 then
    fX7_packed_145 k111 v0 v1 v2 v3 v4 s0 μ
    else
    (fX7_marks v0  μ).bind fun q114 =>
    fX7_packed_145 k111 v0 v1 v3 v3 v4 s0 q114))
set_option maxRecDepth 20000 in
theorem tX7_packed_127 {G : Gm} {p : Program} {l : Launch} {e : Env} {s : State} {m : MethodId} {args : Array Value} {below : List Frame} {meth : Method} {c : Code} {r : Int32 × Mu} {k111 : Nat → Int32 → Int32 → Int32 → Int32 → Mu → Option (Int32 × Mu)} (hk111 : ∀ (v0 : Nat) (v1 : Int32) (v2 : Int32) (v3 : Int32) (v4 : Int32) (μ : Mu), k111 v0 v1 v2 v3 v4 μ = some r → LX7_packed G p l e s m args below meth c r 111 [(0, .ref (gB G + v0)), (1, .int v1), (2, .int v2), (3, .int v3), (4, .int v4)] [] μ) (v0 : Nat) (v1 : Int32) (v2 : Int32) (v3 : Int32) (v4 : Int32) (s0 : Int32) (μ : Mu) (hf : fX7_packed_127 k111 v0 v1 v2 v3 v4 s0 μ = some r) : LX7_packed G p l e s m args below meth c r 127 [(0, .ref (gB G + v0)), (1, .int v1), (2, .int v2), (3, .int v3), (4, .int v4)] [.int s0] μ := by
  rw [fX7_packed_127] at hf
  refine x_istore [1, 2, 3, 4, 5, 0] dX7_packed_127 (by decide) (lv' := [(0, .ref (gB G + v0)), (1, .int v1), (2, .int v2), (3, .int v3), (4, .int v4), (5, .int s0)]) rfl ?_
  refine x_iload 5 dX7_packed_129 rfl ?_
  refine x_if_eq 145 dX7_packed_131 rfl (fun c21 => ?_) (fun c21 => ?_)
  · rw [if_pos c21] at hf
    exact tX7_packed_145 hk111 v0 v1 v2 v3 v4 s0 μ hf
  · rw [if_neg c21] at hf
    refine x_iload_n 3 dX7_packed_134 rfl ?_
    refine x_iload_n 2 dX7_packed_135 rfl ?_
    refine x_icmp_le 145 dX7_packed_136 rfl (fun c113 => ?_) (fun c113 => ?_)
    · rw [if_pos c113] at hf
      exact tX7_packed_145 hk111 v0 v1 v2 v3 v4 s0 μ hf
    · rw [if_neg c113] at hf
      refine x_iload_n 3 dX7_packed_139 rfl ?_
      refine x_istore_n [1, 2, 0, 3, 4, 5] dX7_packed_140 (by decide) (lv' := [(0, .ref (gB G + v0)), (1, .int v1), (2, .int v3), (3, .int v3), (4, .int v4), (5, .int s0)]) rfl ?_
      refine x_aload_n 0 dX7_packed_141 rfl ?_
      obtain ⟨q114, h115, hf⟩ := bnd hf
      refine x_callVv (rest := []) [] (tX7_marks v0  μ h115) wY_X7_marks wI_X7_marks wS_X7_marks wL_X7_159 (grd_p h115) (by decide) rfl rfl (Nat.le_of_ble_eq_true rfl) ⟨Nat.le_of_ble_eq_true rfl, Nat.le_of_ble_eq_true rfl⟩ ⟨Nat.le_refl _, Nat.le_refl _⟩ dX7_packed_142 ?_
      exact tX7_packed_145 hk111 v0 v1 v3 v3 v4 s0 q114 hf
def fX7_packed_111 : Nat → Nat → Int32 → Int32 → Int32 → Int32 → Mu → Option (Int32 × Mu)
  | 0, _, _, _, _, _, _ => none
  | n + 1, v0, v1, v2, v3, v4, μ => (if v4 < 0 then
    (fX7_lets v0  μ).bind fun q18 =>
    some (v2, q18)
    else
    (if v4 = v1 then
    fX7_packed_127 (fX7_packed_111 n) v0 v1 v2 v3 v4 1 μ
    else
    fX7_packed_127 (fX7_packed_111 n) v0 v1 v2 v3 v4 0 μ))
set_option maxRecDepth 20000 in
theorem tX7_packed_111 {G : Gm} {p : Program} {l : Launch} {e : Env} {s : State} {m : MethodId} {args : Array Value} {below : List Frame} {meth : Method} {c : Code} {r : Int32 × Mu} : ∀ (n : Nat) (v0 : Nat) (v1 : Int32) (v2 : Int32) (v3 : Int32) (v4 : Int32) (μ : Mu), fX7_packed_111 n v0 v1 v2 v3 v4 μ = some r → LX7_packed G p l e s m args below meth c r 111 [(0, .ref (gB G + v0)), (1, .int v1), (2, .int v2), (3, .int v3), (4, .int v4)] [] μ := by
  intro n
  induction n with
  | zero =>
    intro v0 v1 v2 v3 v4 μ hf
    simp [fX7_packed_111] at hf
  | succ n ih =>
    intro v0 v1 v2 v3 v4 μ hf
    rw [fX7_packed_111] at hf
    refine x_iload 4 dX7_packed_111 rfl ?_
    refine x_if_lt 361 dX7_packed_113 rfl (fun c17 => ?_) (fun c17 => ?_)
    · rw [if_pos c17] at hf
      refine x_aload_n 0 dX7_packed_361 rfl ?_
      obtain ⟨q18, h19, hf⟩ := bnd hf
      refine x_callVv (rest := []) [] (tX7_lets v0  μ h19) wY_X7_lets wI_X7_lets wS_X7_lets wL_X7_118 (grd_p h19) (by decide) rfl rfl (Nat.le_of_ble_eq_true rfl) ⟨Nat.le_of_ble_eq_true rfl, Nat.le_of_ble_eq_true rfl⟩ ⟨Nat.le_refl _, Nat.le_refl _⟩ dX7_packed_362 ?_
      refine x_iload_n 2 dX7_packed_365 rfl ?_
      exact y_iret rfl rfl rfl hf dX7_packed_366
    · rw [if_neg c17] at hf
      refine x_iload 4 dX7_packed_116 rfl ?_
      refine x_iload_n 1 dX7_packed_118 rfl ?_
      refine x_icmp_ne 126 dX7_packed_119 rfl (fun c20 => ?_) (fun c20 => ?_)
      · rw [if_neg c20] at hf
        refine x_iconst 0 dX7_packed_126 (by decide) ?_
        exact tX7_packed_127 ih v0 v1 v2 v3 v4 0 μ hf
      · rw [if_pos c20] at hf
        refine x_iconst 1 dX7_packed_122 (by decide) ?_
        refine x_goto 127 dX7_packed_123 rfl ?_
        exact tX7_packed_127 ih v0 v1 v2 v3 v4 1 μ hf
def fX7_packed_54 : Nat → Nat → Int32 → Int32 → Mu → Option (Int32 × Mu)
  | 0, _, _, _, _ => none
  | n + 1, v0, v1, v2, μ => (if v2 < 0 then
    (fX7_looks v0  μ).bind fun q11 =>
    (gR 7 v0 15 q11).bind fun x13 =>
    (bI 8 x13 0 (-1) q11).bind fun m15 =>
    fX7_packed_111  FU v0 v1 (-1) 0 0 m15
    else
    (gR 7 v0 16 μ).bind fun x116 =>
    (gR 7 v0 16 μ).bind fun x118 =>
    (aI 8 x118 (v2 + 1) μ).bind fun x120 =>
    (gR 7 v0 2 μ).bind fun x122 =>
    (gR 7 v0 14 μ).bind fun x124 =>
    (aI 8 x124 v2 μ).bind fun x126 =>
    (aI 8 x122 (9 + x126) μ).bind fun x128 =>
    (bI 8 x116 v2 (x120 + x128) μ).bind fun m130 =>
    (fX7_packed_54 n) v0 v1 (v2 + (-1)) m130)
set_option maxRecDepth 20000 in
theorem tX7_packed_54 {G : Gm} {p : Program} {l : Launch} {e : Env} {s : State} {m : MethodId} {args : Array Value} {below : List Frame} {meth : Method} {c : Code} {r : Int32 × Mu} : ∀ (n : Nat) (v0 : Nat) (v1 : Int32) (v2 : Int32) (μ : Mu), fX7_packed_54 n v0 v1 v2 μ = some r → LX7_packed G p l e s m args below meth c r 54 [(0, .ref (gB G + v0)), (1, .int v1), (2, .int v2)] [] μ := by
  intro n
  induction n with
  | zero =>
    intro v0 v1 v2 μ hf
    simp [fX7_packed_54] at hf
  | succ n ih =>
    intro v0 v1 v2 μ hf
    rw [fX7_packed_54] at hf
    refine x_iload_n 2 dX7_packed_54 rfl ?_
    refine x_if_lt 93 dX7_packed_55 rfl (fun c10 => ?_) (fun c10 => ?_)
    · rw [if_pos c10] at hf
      refine x_aload_n 0 dX7_packed_93 rfl ?_
      obtain ⟨q11, h12, hf⟩ := bnd hf
      refine x_callVv (rest := []) [] (tX7_looks v0  μ h12) wY_X7_looks wI_X7_looks wS_X7_looks wL_X7_153 (grd_p h12) (by decide) rfl rfl (Nat.le_of_ble_eq_true rfl) ⟨Nat.le_of_ble_eq_true rfl, Nat.le_of_ble_eq_true rfl⟩ ⟨Nat.le_refl _, Nat.le_refl _⟩ dX7_packed_94 ?_
      refine x_iconst (-1) dX7_packed_97 (by decide) ?_
      refine x_istore_n [1, 2, 0] dX7_packed_98 (by decide) (lv' := [(0, .ref (gB G + v0)), (1, .int v1), (2, .int (-1))]) rfl ?_
      refine x_iconst 0 dX7_packed_99 (by decide) ?_
      refine x_istore_n [1, 2, 3, 0] dX7_packed_100 (by decide) (lv' := [(0, .ref (gB G + v0)), (1, .int v1), (2, .int (-1)), (3, .int 0)]) rfl ?_
      refine x_iconst 0 dX7_packed_101 (by decide) ?_
      refine x_istore [1, 2, 3, 4, 0] dX7_packed_102 (by decide) (lv' := [(0, .ref (gB G + v0)), (1, .int v1), (2, .int (-1)), (3, .int 0), (4, .int 0)]) rfl ?_
      refine x_aload_n 0 dX7_packed_104 rfl ?_
      obtain ⟨x13, h14, hf⟩ := bnd hf
      refine x_getR wF_X7_40 (by decide) (by decide) rfl h14 dX7_packed_105 ?_
      refine x_iconst 0 dX7_packed_108 (by decide) ?_
      refine x_iconst (-1) dX7_packed_109 (by decide) ?_
      obtain ⟨m15, h16, hf⟩ := bnd hf
      refine x_iast h16 dX7_packed_110 ?_
      exact tX7_packed_111  FU v0 v1 (-1) 0 0 m15 hf
    · rw [if_neg c10] at hf
      refine x_aload_n 0 dX7_packed_58 rfl ?_
      obtain ⟨x116, h117, hf⟩ := bnd hf
      refine x_getR wF_X7_43 (by decide) (by decide) rfl h117 dX7_packed_59 ?_
      refine x_iload_n 2 dX7_packed_62 rfl ?_
      refine x_aload_n 0 dX7_packed_63 rfl ?_
      obtain ⟨x118, h119, hf⟩ := bnd hf
      refine x_getR wF_X7_43 (by decide) (by decide) rfl h119 dX7_packed_64 ?_
      refine x_iload_n 2 dX7_packed_67 rfl ?_
      refine x_iconst 1 dX7_packed_68 (by decide) ?_
      refine x_iadd dX7_packed_69 ?_
      obtain ⟨x120, h121, hf⟩ := bnd hf
      refine x_iald h121 dX7_packed_70 ?_
      refine x_aload_n 0 dX7_packed_71 rfl ?_
      obtain ⟨x122, h123, hf⟩ := bnd hf
      refine x_getR wF_X7_13 (by decide) (by decide) rfl h123 dX7_packed_72 ?_
      refine x_bipush 9 dX7_packed_75 (by decide) ?_
      refine x_aload_n 0 dX7_packed_77 rfl ?_
      obtain ⟨x124, h125, hf⟩ := bnd hf
      refine x_getR wF_X7_37 (by decide) (by decide) rfl h125 dX7_packed_78 ?_
      refine x_iload_n 2 dX7_packed_81 rfl ?_
      obtain ⟨x126, h127, hf⟩ := bnd hf
      refine x_iald h127 dX7_packed_82 ?_
      refine x_iadd dX7_packed_83 ?_
      obtain ⟨x128, h129, hf⟩ := bnd hf
      refine x_iald h129 dX7_packed_84 ?_
      refine x_iadd dX7_packed_85 ?_
      obtain ⟨m130, h131, hf⟩ := bnd hf
      refine x_iast h131 dX7_packed_86 ?_
      refine x_iinc 2 (v2 + (-1)) [1, 2, 0] dX7_packed_87 rfl rfl (by decide) (lv' := [(0, .ref (gB G + v0)), (1, .int v1), (2, .int (v2 + (-1)))]) rfl ?_
      refine x_goto 54 dX7_packed_90 rfl ?_
      exact ih v0 v1 (v2 + (-1)) m130 hf
def fX7_packed_4 : Nat → Nat → Int32 → Int32 → Mu → Option (Int32 × Mu)
  | 0, _, _, _, _ => none
  | n + 1, v0, v1, v2, μ => (gR 7 v0 2 μ).bind fun x1 =>
    (aI 8 x1 1 μ).bind fun x3 =>
    (if x3 ≤ v2 then
    (gR 7 v0 16 μ).bind fun x6 =>
    (bI 8 x6 v1 0 μ).bind fun m8 =>
    fX7_packed_54  FU v0 v1 (v1 - 1) m8
    else
    (gR 7 v0 4 μ).bind fun x132 =>
    (aI 8 x132 (7 + v2) μ).bind fun x134 =>
    (if x134 = (-1) then
    (gR 7 v0 14 μ).bind fun x137 =>
    (bI 8 x137 v1 v2 μ).bind fun m139 =>
    (fX7_packed_4 n) v0 (v1 + 1) (v2 + 1) m139
    else
    (fX7_packed_4 n) v0 v1 (v2 + 1) μ))
set_option maxRecDepth 20000 in
theorem tX7_packed_4 {G : Gm} {p : Program} {l : Launch} {e : Env} {s : State} {m : MethodId} {args : Array Value} {below : List Frame} {meth : Method} {c : Code} {r : Int32 × Mu} : ∀ (n : Nat) (v0 : Nat) (v1 : Int32) (v2 : Int32) (μ : Mu), fX7_packed_4 n v0 v1 v2 μ = some r → LX7_packed G p l e s m args below meth c r 4 [(0, .ref (gB G + v0)), (1, .int v1), (2, .int v2)] [] μ := by
  intro n
  induction n with
  | zero =>
    intro v0 v1 v2 μ hf
    simp [fX7_packed_4] at hf
  | succ n ih =>
    intro v0 v1 v2 μ hf
    rw [fX7_packed_4] at hf
    refine x_iload_n 2 dX7_packed_4 rfl ?_
    refine x_aload_n 0 dX7_packed_5 rfl ?_
    obtain ⟨x1, h2, hf⟩ := bnd hf
    refine x_getR wF_X7_13 (by decide) (by decide) rfl h2 dX7_packed_6 ?_
    refine x_iconst 1 dX7_packed_9 (by decide) ?_
    obtain ⟨x3, h4, hf⟩ := bnd hf
    refine x_iald h4 dX7_packed_10 ?_
    refine x_icmp_ge 43 dX7_packed_11 rfl (fun c5 => ?_) (fun c5 => ?_)
    · rw [if_pos c5] at hf
      refine x_aload_n 0 dX7_packed_43 rfl ?_
      obtain ⟨x6, h7, hf⟩ := bnd hf
      refine x_getR wF_X7_43 (by decide) (by decide) rfl h7 dX7_packed_44 ?_
      refine x_iload_n 1 dX7_packed_47 rfl ?_
      refine x_iconst 0 dX7_packed_48 (by decide) ?_
      obtain ⟨m8, h9, hf⟩ := bnd hf
      refine x_iast h9 dX7_packed_49 ?_
      refine x_iload_n 1 dX7_packed_50 rfl ?_
      refine x_iconst 1 dX7_packed_51 (by decide) ?_
      refine x_isub dX7_packed_52 ?_
      refine x_istore_n [1, 2, 0] dX7_packed_53 (by decide) (lv' := [(0, .ref (gB G + v0)), (1, .int v1), (2, .int (v1 - 1))]) rfl ?_
      exact tX7_packed_54  FU v0 v1 (v1 - 1) m8 hf
    · rw [if_neg c5] at hf
      refine x_aload_n 0 dX7_packed_14 rfl ?_
      obtain ⟨x132, h133, hf⟩ := bnd hf
      refine x_getR wF_X7_19 (by decide) (by decide) rfl h133 dX7_packed_15 ?_
      refine x_bipush 7 dX7_packed_18 (by decide) ?_
      refine x_iload_n 2 dX7_packed_20 rfl ?_
      refine x_iadd dX7_packed_21 ?_
      obtain ⟨x134, h135, hf⟩ := bnd hf
      refine x_iald h135 dX7_packed_22 ?_
      refine x_iconst (-1) dX7_packed_23 (by decide) ?_
      refine x_icmp_ne 37 dX7_packed_24 rfl (fun c136 => ?_) (fun c136 => ?_)
      · rw [if_neg c136] at hf
        refine x_iinc 2 (v2 + 1) [1, 2, 0] dX7_packed_37 rfl rfl (by decide) (lv' := [(0, .ref (gB G + v0)), (1, .int v1), (2, .int (v2 + 1))]) rfl ?_
        refine x_goto 4 dX7_packed_40 rfl ?_
        exact ih v0 v1 (v2 + 1) μ hf
      · rw [if_pos c136] at hf
        refine x_aload_n 0 dX7_packed_27 rfl ?_
        obtain ⟨x137, h138, hf⟩ := bnd hf
        refine x_getR wF_X7_37 (by decide) (by decide) rfl h138 dX7_packed_28 ?_
        refine x_iload_n 1 dX7_packed_31 rfl ?_
        refine x_iload_n 2 dX7_packed_32 rfl ?_
        obtain ⟨m139, h140, hf⟩ := bnd hf
        refine x_iast h140 dX7_packed_33 ?_
        refine x_iinc 1 (v1 + 1) [1, 0, 2] dX7_packed_34 rfl rfl (by decide) (lv' := [(0, .ref (gB G + v0)), (1, .int (v1 + 1)), (2, .int v2)]) rfl ?_
        refine x_iinc 2 (v2 + 1) [1, 2, 0] dX7_packed_37 rfl rfl (by decide) (lv' := [(0, .ref (gB G + v0)), (1, .int (v1 + 1)), (2, .int (v2 + 1))]) rfl ?_
        refine x_goto 4 dX7_packed_40 rfl ?_
        exact ih v0 (v1 + 1) (v2 + 1) m139 hf
def fX7_packed (a : Nat) (μ : Mu) : Option (Int32 × Mu) := grd (isO 7 a μ) (fX7_packed_4  FU a 0 0 μ)
set_option maxRecDepth 20000 in
theorem tX7_packed {G : Gm} {l : Launch} {r : Int32 × Mu} (a : Nat) (μ : Mu) (hf : fX7_packed a μ = some r) : Mt G l yX7_packed cX7_packed 7 (some .int) (4) 0 0 [.ref (gB G + a)] μ (some (.int r.1)) r.2 := by
  rw [fX7_packed] at hf
  have hf := grd_v hf
  refine Mt.of (by decide) (Nat.le_of_ble_eq_true rfl) (fun p e s m args below meth c => ?_)
  show LX7_packed G p l e s m args below meth c r 0 [(0, .ref (gB G + a))] [] μ
  refine x_iconst 0 dX7_packed_0 (by decide) ?_
  refine x_istore_n [1, 0] dX7_packed_1 (by decide) (lv' := [(0, .ref (gB G + a)), (1, .int 0)]) rfl ?_
  refine x_iconst 0 dX7_packed_2 (by decide) ?_
  refine x_istore_n [1, 2, 0] dX7_packed_3 (by decide) (lv' := [(0, .ref (gB G + a)), (1, .int 0), (2, .int 0)]) rfl ?_
  exact tX7_packed_4  FU a 0 0 μ hf
abbrev LX7_packs (G : Gm) (p : Program) (l : Launch) (e : Env) (s : State) (m : MethodId) (args : Array Value) (below : List Frame) (meth : Method) (c : Code) (r : Int32 × Mu) (pc : Nat) (lv : List (Nat × Value)) (st : List Value) (μ : Mu) : Prop := Lt G p l e { frames := 5, cells := 0, slots := 0, locals := 40 * (5) } s m args below meth c cX7_packs 3 RX7 (some .int) "packs" (MQ below (Qm G (some (.int r.1)) r.2 0) args s 0 0 (fA G)) 0 0 pc lv st μ
def fX7_packs_15 (v0 : Nat) (v1 : Int32) (μ : Mu) : Option (Int32 × Mu) := (fX7_packed v0  μ).bind fun q2 =>
    (if v1 = (-1) then
    some (q2.1, q2.2)
    else
    (gR 7 v0 13 q2.2).bind fun x5 =>
    (aI 8 x5 v1 q2.2).bind fun x7 =>
    (if x7 = (-1) then
    some ((-4), q2.2)
    else
    (gR 7 v0 13 q2.2).bind fun x10 =>
    (aI 8 x10 v1 q2.2).bind fun x12 =>
    some (x12, q2.2)))
set_option maxRecDepth 20000 in
theorem tX7_packs_15 {G : Gm} {p : Program} {l : Launch} {e : Env} {s : State} {m : MethodId} {args : Array Value} {below : List Frame} {meth : Method} {c : Code} {r : Int32 × Mu} (v0 : Nat) (v1 : Int32) (μ : Mu) (hf : fX7_packs_15 v0 v1 μ = some r) : LX7_packs G p l e s m args below meth c r 15 [(0, .ref (gB G + v0)), (1, .int v1)] [] μ := by
  rw [fX7_packs_15] at hf
  refine x_aload_n 0 dX7_packs_15 rfl ?_
  obtain ⟨q2, h3, hf⟩ := bnd hf
  refine x_callVi (rest := []) [] (tX7_packed v0  μ h3) wY_X7_packed wI_X7_packed wS_X7_packed wL_X7_162 (grd_p h3) (by decide) rfl rfl (Nat.le_of_ble_eq_true rfl) ⟨Nat.le_of_ble_eq_true rfl, Nat.le_of_ble_eq_true rfl⟩ ⟨Nat.le_refl _, Nat.le_refl _⟩ dX7_packs_16 ?_
  refine x_istore_n [1, 2, 0] dX7_packs_19 (by decide) (lv' := [(0, .ref (gB G + v0)), (1, .int v1), (2, .int q2.1)]) rfl ?_
  refine x_iload_n 1 dX7_packs_20 rfl ?_
  refine x_iconst (-1) dX7_packs_21 (by decide) ?_
  refine x_icmp_ne 29 dX7_packs_22 rfl (fun c4 => ?_) (fun c4 => ?_)
  · rw [if_neg c4] at hf
    refine x_aload_n 0 dX7_packs_29 rfl ?_
    obtain ⟨x5, h6, hf⟩ := bnd hf
    refine x_getR wF_X7_34 (by decide) (by decide) rfl h6 dX7_packs_30 ?_
    refine x_iload_n 1 dX7_packs_33 rfl ?_
    obtain ⟨x7, h8, hf⟩ := bnd hf
    refine x_iald h8 dX7_packs_34 ?_
    refine x_iconst (-1) dX7_packs_35 (by decide) ?_
    refine x_icmp_ne 44 dX7_packs_36 rfl (fun c9 => ?_) (fun c9 => ?_)
    · rw [if_neg c9] at hf
      refine x_aload_n 0 dX7_packs_44 rfl ?_
      obtain ⟨x10, h11, hf⟩ := bnd hf
      refine x_getR wF_X7_34 (by decide) (by decide) rfl h11 dX7_packs_45 ?_
      refine x_iload_n 1 dX7_packs_48 rfl ?_
      obtain ⟨x12, h13, hf⟩ := bnd hf
      refine x_iald h13 dX7_packs_49 ?_
      exact y_iret rfl rfl rfl hf dX7_packs_50
    · rw [if_pos c9] at hf
      refine x_bipush (-4) dX7_packs_39 (by decide) ?_
      refine x_goto 50 dX7_packs_41 rfl ?_
      exact y_iret rfl rfl rfl hf dX7_packs_50
  · rw [if_pos c4] at hf
    refine x_iload_n 2 dX7_packs_25 rfl ?_
    refine x_goto 50 dX7_packs_26 rfl ?_
    exact y_iret rfl rfl rfl hf dX7_packs_50
def fX7_packs (a : Nat) (u1 : Int32) (μ : Mu) : Option (Int32 × Mu) := grd (isO 7 a μ) ((if u1 = (-1) then
    fX7_packs_15  a u1 μ
    else
    (fX7_isHour a u1 μ).bind fun q14 =>
    (if q14.1 = 0 then
    some ((-1), q14.2)
    else
    fX7_packs_15  a u1 q14.2)))
set_option maxRecDepth 20000 in
theorem tX7_packs {G : Gm} {l : Launch} {r : Int32 × Mu} (a : Nat) (u1 : Int32) (μ : Mu) (hf : fX7_packs a u1 μ = some r) : Mt G l yX7_packs cX7_packs 3 (some .int) (5) 0 0 [.ref (gB G + a), .int u1] μ (some (.int r.1)) r.2 := by
  rw [fX7_packs] at hf
  have hf := grd_v hf
  refine Mt.of (by decide) (Nat.le_of_ble_eq_true rfl) (fun p e s m args below meth c => ?_)
  show LX7_packs G p l e s m args below meth c r 0 [(0, .ref (gB G + a)), (1, .int u1)] [] μ
  refine x_iload_n 1 dX7_packs_0 rfl ?_
  refine x_iconst (-1) dX7_packs_1 (by decide) ?_
  refine x_icmp_eq 15 dX7_packs_2 rfl (fun c1 => ?_) (fun c1 => ?_)
  · rw [if_pos c1] at hf
    exact tX7_packs_15  a u1 μ hf
  · rw [if_neg c1] at hf
    refine x_aload_n 0 dX7_packs_5 rfl ?_
    refine x_iload_n 1 dX7_packs_6 rfl ?_
    obtain ⟨q14, h15, hf⟩ := bnd hf
    refine x_callVi (rest := []) [.int u1] (tX7_isHour a u1 μ h15) wY_X7_isHour wI_X7_isHour wS_X7_isHour wL_X7_133 (grd_p h15) (by decide) rfl rfl (Nat.le_of_ble_eq_true rfl) ⟨Nat.le_of_ble_eq_true rfl, Nat.le_of_ble_eq_true rfl⟩ ⟨Nat.le_refl _, Nat.le_refl _⟩ dX7_packs_7 ?_
    refine x_if_ne 15 dX7_packs_10 rfl (fun c16 => ?_) (fun c16 => ?_)
    · rw [if_neg c16] at hf
      exact tX7_packs_15  a u1 q14.2 hf
    · rw [if_pos c16] at hf
      refine x_iconst (-1) dX7_packs_13 (by decide) ?_
      exact y_iret rfl rfl rfl hf dX7_packs_14
abbrev LX7_lyingAll (G : Gm) (p : Program) (l : Launch) (e : Env) (s : State) (m : MethodId) (args : Array Value) (below : List Frame) (meth : Method) (c : Code) (r : Int32 × Mu) (pc : Nat) (lv : List (Nat × Value)) (st : List Value) (μ : Mu) : Prop := Lt G p l e { frames := 0, cells := 0, slots := 0, locals := 40 * (0) } s m args below meth c cX7_lyingAll 3 RX7 (some .int) "lyingAll" (MQ below (Qm G (some (.int r.1)) r.2 0) args s 0 0 (fA G)) 0 0 pc lv st μ
def fX7_lyingAll_4 : Nat → Nat → Int32 → Int32 → Mu → Option (Int32 × Mu)
  | 0, _, _, _, _ => none
  | n + 1, v0, v1, v2, μ => (gR 7 v0 2 μ).bind fun x1 =>
    (aI 8 x1 1 μ).bind fun x3 =>
    (if x3 ≤ v2 then
    some (v1, μ)
    else
    (gR 7 v0 4 μ).bind fun x6 =>
    (aI 8 x6 (7 + v2) μ).bind fun x8 =>
    (if x8 = (-1) then
    (fX7_lyingAll_4 n) v0 (v1 ||| 0) (v2 + 1) μ
    else
    (fX7_lyingAll_4 n) v0 (v1 ||| (1 <<< (v2 &&& 31))) (v2 + 1) μ))
set_option maxRecDepth 20000 in
theorem tX7_lyingAll_4 {G : Gm} {p : Program} {l : Launch} {e : Env} {s : State} {m : MethodId} {args : Array Value} {below : List Frame} {meth : Method} {c : Code} {r : Int32 × Mu} : ∀ (n : Nat) (v0 : Nat) (v1 : Int32) (v2 : Int32) (μ : Mu), fX7_lyingAll_4 n v0 v1 v2 μ = some r → LX7_lyingAll G p l e s m args below meth c r 4 [(0, .ref (gB G + v0)), (1, .int v1), (2, .int v2)] [] μ := by
  intro n
  induction n with
  | zero =>
    intro v0 v1 v2 μ hf
    simp [fX7_lyingAll_4] at hf
  | succ n ih =>
    intro v0 v1 v2 μ hf
    rw [fX7_lyingAll_4] at hf
    refine x_iload_n 2 dX7_lyingAll_4 rfl ?_
    refine x_aload_n 0 dX7_lyingAll_5 rfl ?_
    obtain ⟨x1, h2, hf⟩ := bnd hf
    refine x_getR wF_X7_13 (by decide) (by decide) rfl h2 dX7_lyingAll_6 ?_
    refine x_iconst 1 dX7_lyingAll_9 (by decide) ?_
    obtain ⟨x3, h4, hf⟩ := bnd hf
    refine x_iald h4 dX7_lyingAll_10 ?_
    refine x_icmp_ge 43 dX7_lyingAll_11 rfl (fun c5 => ?_) (fun c5 => ?_)
    · rw [if_pos c5] at hf
      refine x_iload_n 1 dX7_lyingAll_43 rfl ?_
      exact y_iret rfl rfl rfl hf dX7_lyingAll_44
    · rw [if_neg c5] at hf
      refine x_iload_n 1 dX7_lyingAll_14 rfl ?_
      refine x_aload_n 0 dX7_lyingAll_15 rfl ?_
      obtain ⟨x6, h7, hf⟩ := bnd hf
      refine x_getR wF_X7_19 (by decide) (by decide) rfl h7 dX7_lyingAll_16 ?_
      refine x_bipush 7 dX7_lyingAll_19 (by decide) ?_
      refine x_iload_n 2 dX7_lyingAll_21 rfl ?_
      refine x_iadd dX7_lyingAll_22 ?_
      obtain ⟨x8, h9, hf⟩ := bnd hf
      refine x_iald h9 dX7_lyingAll_23 ?_
      refine x_iconst (-1) dX7_lyingAll_24 (by decide) ?_
      refine x_icmp_ne 32 dX7_lyingAll_25 rfl (fun c10 => ?_) (fun c10 => ?_)
      · rw [if_neg c10] at hf
        refine x_iconst 1 dX7_lyingAll_32 (by decide) ?_
        refine x_iload_n 2 dX7_lyingAll_33 rfl ?_
        refine x_ishl dX7_lyingAll_34 ?_
        refine x_ior dX7_lyingAll_35 ?_
        refine x_istore_n [1, 0, 2] dX7_lyingAll_36 (by decide) (lv' := [(0, .ref (gB G + v0)), (1, .int (v1 ||| (1 <<< (v2 &&& 31)))), (2, .int v2)]) rfl ?_
        refine x_iinc 2 (v2 + 1) [1, 2, 0] dX7_lyingAll_37 rfl rfl (by decide) (lv' := [(0, .ref (gB G + v0)), (1, .int (v1 ||| (1 <<< (v2 &&& 31)))), (2, .int (v2 + 1))]) rfl ?_
        refine x_goto 4 dX7_lyingAll_40 rfl ?_
        exact ih v0 (v1 ||| (1 <<< (v2 &&& 31))) (v2 + 1) μ hf
      · rw [if_pos c10] at hf
        refine x_iconst 0 dX7_lyingAll_28 (by decide) ?_
        refine x_goto 35 dX7_lyingAll_29 rfl ?_
        refine x_ior dX7_lyingAll_35 ?_
        refine x_istore_n [1, 0, 2] dX7_lyingAll_36 (by decide) (lv' := [(0, .ref (gB G + v0)), (1, .int (v1 ||| 0)), (2, .int v2)]) rfl ?_
        refine x_iinc 2 (v2 + 1) [1, 2, 0] dX7_lyingAll_37 rfl rfl (by decide) (lv' := [(0, .ref (gB G + v0)), (1, .int (v1 ||| 0)), (2, .int (v2 + 1))]) rfl ?_
        refine x_goto 4 dX7_lyingAll_40 rfl ?_
        exact ih v0 (v1 ||| 0) (v2 + 1) μ hf
def fX7_lyingAll (a : Nat) (μ : Mu) : Option (Int32 × Mu) := grd (isO 7 a μ) (fX7_lyingAll_4  FU a 0 0 μ)
set_option maxRecDepth 20000 in
theorem tX7_lyingAll {G : Gm} {l : Launch} {r : Int32 × Mu} (a : Nat) (μ : Mu) (hf : fX7_lyingAll a μ = some r) : Mt G l yX7_lyingAll cX7_lyingAll 3 (some .int) (0) 0 0 [.ref (gB G + a)] μ (some (.int r.1)) r.2 := by
  rw [fX7_lyingAll] at hf
  have hf := grd_v hf
  refine Mt.of (by decide) (Nat.le_of_ble_eq_true rfl) (fun p e s m args below meth c => ?_)
  show LX7_lyingAll G p l e s m args below meth c r 0 [(0, .ref (gB G + a))] [] μ
  refine x_iconst 0 dX7_lyingAll_0 (by decide) ?_
  refine x_istore_n [1, 0] dX7_lyingAll_1 (by decide) (lv' := [(0, .ref (gB G + a)), (1, .int 0)]) rfl ?_
  refine x_iconst 0 dX7_lyingAll_2 (by decide) ?_
  refine x_istore_n [1, 2, 0] dX7_lyingAll_3 (by decide) (lv' := [(0, .ref (gB G + a)), (1, .int 0), (2, .int 0)]) rfl ?_
  exact tX7_lyingAll_4  FU a 0 0 μ hf
abbrev LX7_stirs (G : Gm) (p : Program) (l : Launch) (e : Env) (s : State) (m : MethodId) (args : Array Value) (below : List Frame) (meth : Method) (c : Code) (r : Int32 × Mu) (pc : Nat) (lv : List (Nat × Value)) (st : List Value) (μ : Mu) : Prop := Lt G p l e { frames := 1, cells := 0, slots := 0, locals := 40 * (1) } s m args below meth c cX7_stirs 4 RX7 (some .int) "stirs" (MQ below (Qm G (some (.int r.1)) r.2 0) args s 0 0 (fA G)) 0 0 pc lv st μ
def fX7_stirs_4 : Nat → Nat → Int32 → Int32 → Int32 → Mu → Option (Int32 × Mu)
  | 0, _, _, _, _, _ => none
  | n + 1, v0, v1, v2, v3, μ => (gR 7 v0 2 μ).bind fun x1 =>
    (aI 8 x1 1 μ).bind fun x3 =>
    (if x3 ≤ v3 then
    (fX7_ones (v2 &&& (v1 ^^^ (-1))) μ).bind fun q6 =>
    some (q6.1, q6.2)
    else
    (fX7_has v1 v3 μ).bind fun q8 =>
    (if q8.1 = 0 then
    (fX7_stirs_4 n) v0 v1 (v2 ||| 0) (v3 + 1) q8.2
    else
    (fX7_aboveOf v0 v3 q8.2).bind fun q11 =>
    (fX7_stirs_4 n) v0 v1 (v2 ||| q11.1) (v3 + 1) q11.2))
set_option maxRecDepth 20000 in
theorem tX7_stirs_4 {G : Gm} {p : Program} {l : Launch} {e : Env} {s : State} {m : MethodId} {args : Array Value} {below : List Frame} {meth : Method} {c : Code} {r : Int32 × Mu} : ∀ (n : Nat) (v0 : Nat) (v1 : Int32) (v2 : Int32) (v3 : Int32) (μ : Mu), fX7_stirs_4 n v0 v1 v2 v3 μ = some r → LX7_stirs G p l e s m args below meth c r 4 [(0, .ref (gB G + v0)), (1, .int v1), (2, .int v2), (3, .int v3)] [] μ := by
  intro n
  induction n with
  | zero =>
    intro v0 v1 v2 v3 μ hf
    simp [fX7_stirs_4] at hf
  | succ n ih =>
    intro v0 v1 v2 v3 μ hf
    rw [fX7_stirs_4] at hf
    refine x_iload_n 3 dX7_stirs_4 rfl ?_
    refine x_aload_n 0 dX7_stirs_5 rfl ?_
    obtain ⟨x1, h2, hf⟩ := bnd hf
    refine x_getR wF_X7_13 (by decide) (by decide) rfl h2 dX7_stirs_6 ?_
    refine x_iconst 1 dX7_stirs_9 (by decide) ?_
    obtain ⟨x3, h4, hf⟩ := bnd hf
    refine x_iald h4 dX7_stirs_10 ?_
    refine x_icmp_ge 40 dX7_stirs_11 rfl (fun c5 => ?_) (fun c5 => ?_)
    · rw [if_pos c5] at hf
      refine x_iload_n 2 dX7_stirs_40 rfl ?_
      refine x_iload_n 1 dX7_stirs_41 rfl ?_
      refine x_iconst (-1) dX7_stirs_42 (by decide) ?_
      refine x_ixor dX7_stirs_43 ?_
      refine x_iand dX7_stirs_44 ?_
      obtain ⟨q6, h7, hf⟩ := bnd hf
      refine x_callSi (rest := []) [.int (v2 &&& (v1 ^^^ (-1)))] (tX7_ones (v2 &&& (v1 ^^^ (-1))) μ h7) wY_X7_ones wT_X7_ones wL_X7_168 rfl (Nat.le_of_ble_eq_true rfl) ⟨Nat.le_of_ble_eq_true rfl, Nat.le_of_ble_eq_true rfl⟩ ⟨Nat.le_refl _, Nat.le_refl _⟩ dX7_stirs_45 ?_
      exact y_iret rfl rfl rfl hf dX7_stirs_48
    · rw [if_neg c5] at hf
      refine x_iload_n 2 dX7_stirs_14 rfl ?_
      refine x_iload_n 1 dX7_stirs_15 rfl ?_
      refine x_iload_n 3 dX7_stirs_16 rfl ?_
      obtain ⟨q8, h9, hf⟩ := bnd hf
      refine x_callSi (rest := [.int v2]) [.int v1, .int v3] (tX7_has v1 v3 μ h9) wY_X7_has wT_X7_has wL_X7_165 rfl (Nat.le_of_ble_eq_true rfl) ⟨Nat.le_of_ble_eq_true rfl, Nat.le_of_ble_eq_true rfl⟩ ⟨Nat.le_refl _, Nat.le_refl _⟩ dX7_stirs_17 ?_
      refine x_if_eq 31 dX7_stirs_20 rfl (fun c10 => ?_) (fun c10 => ?_)
      · rw [if_pos c10] at hf
        refine x_iconst 0 dX7_stirs_31 (by decide) ?_
        refine x_ior dX7_stirs_32 ?_
        refine x_istore_n [1, 2, 0, 3] dX7_stirs_33 (by decide) (lv' := [(0, .ref (gB G + v0)), (1, .int v1), (2, .int (v2 ||| 0)), (3, .int v3)]) rfl ?_
        refine x_iinc 3 (v3 + 1) [1, 2, 3, 0] dX7_stirs_34 rfl rfl (by decide) (lv' := [(0, .ref (gB G + v0)), (1, .int v1), (2, .int (v2 ||| 0)), (3, .int (v3 + 1))]) rfl ?_
        refine x_goto 4 dX7_stirs_37 rfl ?_
        exact ih v0 v1 (v2 ||| 0) (v3 + 1) q8.2 hf
      · rw [if_neg c10] at hf
        refine x_aload_n 0 dX7_stirs_23 rfl ?_
        refine x_iload_n 3 dX7_stirs_24 rfl ?_
        obtain ⟨q11, h12, hf⟩ := bnd hf
        refine x_callVi (rest := [.int v2]) [.int v3] (tX7_aboveOf v0 v3 q8.2 h12) wY_X7_aboveOf wI_X7_aboveOf wS_X7_aboveOf wL_X7_156 (grd_p h12) (by decide) rfl rfl (Nat.le_of_ble_eq_true rfl) ⟨Nat.le_of_ble_eq_true rfl, Nat.le_of_ble_eq_true rfl⟩ ⟨Nat.le_refl _, Nat.le_refl _⟩ dX7_stirs_25 ?_
        refine x_goto 32 dX7_stirs_28 rfl ?_
        refine x_ior dX7_stirs_32 ?_
        refine x_istore_n [1, 2, 0, 3] dX7_stirs_33 (by decide) (lv' := [(0, .ref (gB G + v0)), (1, .int v1), (2, .int (v2 ||| q11.1)), (3, .int v3)]) rfl ?_
        refine x_iinc 3 (v3 + 1) [1, 2, 3, 0] dX7_stirs_34 rfl rfl (by decide) (lv' := [(0, .ref (gB G + v0)), (1, .int v1), (2, .int (v2 ||| q11.1)), (3, .int (v3 + 1))]) rfl ?_
        refine x_goto 4 dX7_stirs_37 rfl ?_
        exact ih v0 v1 (v2 ||| q11.1) (v3 + 1) q11.2 hf
def fX7_stirs (a : Nat) (u1 : Int32) (μ : Mu) : Option (Int32 × Mu) := grd (isO 7 a μ) (fX7_stirs_4  FU a u1 0 0 μ)
set_option maxRecDepth 20000 in
theorem tX7_stirs {G : Gm} {l : Launch} {r : Int32 × Mu} (a : Nat) (u1 : Int32) (μ : Mu) (hf : fX7_stirs a u1 μ = some r) : Mt G l yX7_stirs cX7_stirs 4 (some .int) (1) 0 0 [.ref (gB G + a), .int u1] μ (some (.int r.1)) r.2 := by
  rw [fX7_stirs] at hf
  have hf := grd_v hf
  refine Mt.of (by decide) (Nat.le_of_ble_eq_true rfl) (fun p e s m args below meth c => ?_)
  show LX7_stirs G p l e s m args below meth c r 0 [(0, .ref (gB G + a)), (1, .int u1)] [] μ
  refine x_iconst 0 dX7_stirs_0 (by decide) ?_
  refine x_istore_n [1, 2, 0] dX7_stirs_1 (by decide) (lv' := [(0, .ref (gB G + a)), (1, .int u1), (2, .int 0)]) rfl ?_
  refine x_iconst 0 dX7_stirs_2 (by decide) ?_
  refine x_istore_n [1, 2, 3, 0] dX7_stirs_3 (by decide) (lv' := [(0, .ref (gB G + a)), (1, .int u1), (2, .int 0), (3, .int 0)]) rfl ?_
  exact tX7_stirs_4  FU a u1 0 0 μ hf
abbrev LX7_stir (G : Gm) (p : Program) (l : Launch) (e : Env) (s : State) (m : MethodId) (args : Array Value) (below : List Frame) (meth : Method) (c : Code) (r : Int32 × Mu) (pc : Nat) (lv : List (Nat × Value)) (st : List Value) (μ : Mu) : Prop := Lt G p l e { frames := 2, cells := 0, slots := 0, locals := 40 * (2) } s m args below meth c cX7_stir 2 RX7 (some .int) "stir" (MQ below (Qm G (some (.int r.1)) r.2 0) args s 0 0 (fA G)) 0 0 pc lv st μ
def fX7_stir (a : Nat) (u1 : Int32) (μ : Mu) : Option (Int32 × Mu) := grd (isO 7 a μ) ((gR 7 a 2 μ).bind fun x1 =>
    (aI 8 x1 1 μ).bind fun x3 =>
    (fX7_in u1 0 ((1 <<< (x3 &&& 31)) - 1) μ).bind fun q5 =>
    (if q5.1 = 0 then
    some ((-1), q5.2)
    else
    (fX7_lyingAll a  q5.2).bind fun q8 =>
    (if (u1 &&& (q8.1 ^^^ (-1))) = 0 then
    (fX7_stirs a u1 q8.2).bind fun q11 =>
    some (q11.1, q11.2)
    else
    some ((-2), q8.2))))
set_option maxRecDepth 20000 in
theorem tX7_stir {G : Gm} {l : Launch} {r : Int32 × Mu} (a : Nat) (u1 : Int32) (μ : Mu) (hf : fX7_stir a u1 μ = some r) : Mt G l yX7_stir cX7_stir 2 (some .int) (2) 0 0 [.ref (gB G + a), .int u1] μ (some (.int r.1)) r.2 := by
  rw [fX7_stir] at hf
  have hf := grd_v hf
  refine Mt.of (by decide) (Nat.le_of_ble_eq_true rfl) (fun p e s m args below meth c => ?_)
  show LX7_stir G p l e s m args below meth c r 0 [(0, .ref (gB G + a)), (1, .int u1)] [] μ
  refine x_iload_n 1 dX7_stir_0 rfl ?_
  refine x_iconst 0 dX7_stir_1 (by decide) ?_
  refine x_iconst 1 dX7_stir_2 (by decide) ?_
  refine x_aload_n 0 dX7_stir_3 rfl ?_
  obtain ⟨x1, h2, hf⟩ := bnd hf
  refine x_getR wF_X7_13 (by decide) (by decide) rfl h2 dX7_stir_4 ?_
  refine x_iconst 1 dX7_stir_7 (by decide) ?_
  obtain ⟨x3, h4, hf⟩ := bnd hf
  refine x_iald h4 dX7_stir_8 ?_
  refine x_ishl dX7_stir_9 ?_
  refine x_iconst 1 dX7_stir_10 (by decide) ?_
  refine x_isub dX7_stir_11 ?_
  obtain ⟨q5, h6, hf⟩ := bnd hf
  refine x_callSi (rest := []) [.int u1, .int 0, .int ((1 <<< (x3 &&& 31)) - 1)] (tX7_in u1 0 ((1 <<< (x3 &&& 31)) - 1) μ h6) wY_X7_in wT_X7_in wL_X7_56 rfl (Nat.le_of_ble_eq_true rfl) ⟨Nat.le_of_ble_eq_true rfl, Nat.le_of_ble_eq_true rfl⟩ ⟨Nat.le_refl _, Nat.le_refl _⟩ dX7_stir_12 ?_
  refine x_if_ne 20 dX7_stir_15 rfl (fun c7 => ?_) (fun c7 => ?_)
  · rw [if_neg c7] at hf
    refine x_iload_n 1 dX7_stir_20 rfl ?_
    refine x_aload_n 0 dX7_stir_21 rfl ?_
    obtain ⟨q8, h9, hf⟩ := bnd hf
    refine x_callVi (rest := [.int u1]) [] (tX7_lyingAll a  q5.2 h9) wY_X7_lyingAll wI_X7_lyingAll wS_X7_lyingAll wL_X7_171 (grd_p h9) (by decide) rfl rfl (Nat.le_of_ble_eq_true rfl) ⟨Nat.le_of_ble_eq_true rfl, Nat.le_of_ble_eq_true rfl⟩ ⟨Nat.le_refl _, Nat.le_refl _⟩ dX7_stir_22 ?_
    refine x_iconst (-1) dX7_stir_25 (by decide) ?_
    refine x_ixor dX7_stir_26 ?_
    refine x_iand dX7_stir_27 ?_
    refine x_if_eq 36 dX7_stir_28 rfl (fun c10 => ?_) (fun c10 => ?_)
    · rw [if_pos c10] at hf
      refine x_aload_n 0 dX7_stir_36 rfl ?_
      refine x_iload_n 1 dX7_stir_37 rfl ?_
      obtain ⟨q11, h12, hf⟩ := bnd hf
      refine x_callVi (rest := []) [.int u1] (tX7_stirs a u1 q8.2 h12) wY_X7_stirs wI_X7_stirs wS_X7_stirs wL_X7_174 (grd_p h12) (by decide) rfl rfl (Nat.le_of_ble_eq_true rfl) ⟨Nat.le_of_ble_eq_true rfl, Nat.le_of_ble_eq_true rfl⟩ ⟨Nat.le_refl _, Nat.le_refl _⟩ dX7_stir_38 ?_
      exact y_iret rfl rfl rfl hf dX7_stir_41
    · rw [if_neg c10] at hf
      refine x_bipush (-2) dX7_stir_31 (by decide) ?_
      refine x_goto 41 dX7_stir_33 rfl ?_
      exact y_iret rfl rfl rfl hf dX7_stir_41
  · rw [if_pos c7] at hf
    refine x_iconst (-1) dX7_stir_18 (by decide) ?_
    exact y_iret rfl rfl rfl hf dX7_stir_19
abbrev LX7_worthOf (G : Gm) (p : Program) (l : Launch) (e : Env) (s : State) (m : MethodId) (args : Array Value) (below : List Frame) (meth : Method) (c : Code) (r : Int32 × Mu) (pc : Nat) (lv : List (Nat × Value)) (st : List Value) (μ : Mu) : Prop := Lt G p l e { frames := 1, cells := 0, slots := 0, locals := 40 * (1) } s m args below meth c cX7_worthOf 4 RX7 (some .int) "worthOf" (MQ below (Qm G (some (.int r.1)) r.2 0) args s 0 0 (fA G)) 0 0 pc lv st μ
def fX7_worthOf_4 : Nat → Nat → Int32 → Int32 → Int32 → Mu → Option (Int32 × Mu)
  | 0, _, _, _, _, _ => none
  | n + 1, v0, v1, v2, v3, μ => (gR 7 v0 2 μ).bind fun x1 =>
    (aI 8 x1 1 μ).bind fun x3 =>
    (if x3 ≤ v3 then
    some (v2, μ)
    else
    (fX7_has v1 v3 μ).bind fun q6 =>
    (if q6.1 = 0 then
    (fX7_worthOf_4 n) v0 v1 (v2 + 0) (v3 + 1) q6.2
    else
    (gR 7 v0 2 q6.2).bind fun x9 =>
    (aI 8 x9 (9 + v3) q6.2).bind fun x11 =>
    (fX7_worthOf_4 n) v0 v1 (v2 + x11) (v3 + 1) q6.2))
set_option maxRecDepth 20000 in
theorem tX7_worthOf_4 {G : Gm} {p : Program} {l : Launch} {e : Env} {s : State} {m : MethodId} {args : Array Value} {below : List Frame} {meth : Method} {c : Code} {r : Int32 × Mu} : ∀ (n : Nat) (v0 : Nat) (v1 : Int32) (v2 : Int32) (v3 : Int32) (μ : Mu), fX7_worthOf_4 n v0 v1 v2 v3 μ = some r → LX7_worthOf G p l e s m args below meth c r 4 [(0, .ref (gB G + v0)), (1, .int v1), (2, .int v2), (3, .int v3)] [] μ := by
  intro n
  induction n with
  | zero =>
    intro v0 v1 v2 v3 μ hf
    simp [fX7_worthOf_4] at hf
  | succ n ih =>
    intro v0 v1 v2 v3 μ hf
    rw [fX7_worthOf_4] at hf
    refine x_iload_n 3 dX7_worthOf_4 rfl ?_
    refine x_aload_n 0 dX7_worthOf_5 rfl ?_
    obtain ⟨x1, h2, hf⟩ := bnd hf
    refine x_getR wF_X7_13 (by decide) (by decide) rfl h2 dX7_worthOf_6 ?_
    refine x_iconst 1 dX7_worthOf_9 (by decide) ?_
    obtain ⟨x3, h4, hf⟩ := bnd hf
    refine x_iald h4 dX7_worthOf_10 ?_
    refine x_icmp_ge 44 dX7_worthOf_11 rfl (fun c5 => ?_) (fun c5 => ?_)
    · rw [if_pos c5] at hf
      refine x_iload_n 2 dX7_worthOf_44 rfl ?_
      exact y_iret rfl rfl rfl hf dX7_worthOf_45
    · rw [if_neg c5] at hf
      refine x_iload_n 2 dX7_worthOf_14 rfl ?_
      refine x_iload_n 1 dX7_worthOf_15 rfl ?_
      refine x_iload_n 3 dX7_worthOf_16 rfl ?_
      obtain ⟨q6, h7, hf⟩ := bnd hf
      refine x_callSi (rest := [.int v2]) [.int v1, .int v3] (tX7_has v1 v3 μ h7) wY_X7_has wT_X7_has wL_X7_165 rfl (Nat.le_of_ble_eq_true rfl) ⟨Nat.le_of_ble_eq_true rfl, Nat.le_of_ble_eq_true rfl⟩ ⟨Nat.le_refl _, Nat.le_refl _⟩ dX7_worthOf_17 ?_
      refine x_if_eq 35 dX7_worthOf_20 rfl (fun c8 => ?_) (fun c8 => ?_)
      · rw [if_pos c8] at hf
        refine x_iconst 0 dX7_worthOf_35 (by decide) ?_
        refine x_iadd dX7_worthOf_36 ?_
        refine x_istore_n [1, 2, 0, 3] dX7_worthOf_37 (by decide) (lv' := [(0, .ref (gB G + v0)), (1, .int v1), (2, .int (v2 + 0)), (3, .int v3)]) rfl ?_
        refine x_iinc 3 (v3 + 1) [1, 2, 3, 0] dX7_worthOf_38 rfl rfl (by decide) (lv' := [(0, .ref (gB G + v0)), (1, .int v1), (2, .int (v2 + 0)), (3, .int (v3 + 1))]) rfl ?_
        refine x_goto 4 dX7_worthOf_41 rfl ?_
        exact ih v0 v1 (v2 + 0) (v3 + 1) q6.2 hf
      · rw [if_neg c8] at hf
        refine x_aload_n 0 dX7_worthOf_23 rfl ?_
        obtain ⟨x9, h10, hf⟩ := bnd hf
        refine x_getR wF_X7_13 (by decide) (by decide) rfl h10 dX7_worthOf_24 ?_
        refine x_bipush 9 dX7_worthOf_27 (by decide) ?_
        refine x_iload_n 3 dX7_worthOf_29 rfl ?_
        refine x_iadd dX7_worthOf_30 ?_
        obtain ⟨x11, h12, hf⟩ := bnd hf
        refine x_iald h12 dX7_worthOf_31 ?_
        refine x_goto 36 dX7_worthOf_32 rfl ?_
        refine x_iadd dX7_worthOf_36 ?_
        refine x_istore_n [1, 2, 0, 3] dX7_worthOf_37 (by decide) (lv' := [(0, .ref (gB G + v0)), (1, .int v1), (2, .int (v2 + x11)), (3, .int v3)]) rfl ?_
        refine x_iinc 3 (v3 + 1) [1, 2, 3, 0] dX7_worthOf_38 rfl rfl (by decide) (lv' := [(0, .ref (gB G + v0)), (1, .int v1), (2, .int (v2 + x11)), (3, .int (v3 + 1))]) rfl ?_
        refine x_goto 4 dX7_worthOf_41 rfl ?_
        exact ih v0 v1 (v2 + x11) (v3 + 1) q6.2 hf
def fX7_worthOf (a : Nat) (u1 : Int32) (μ : Mu) : Option (Int32 × Mu) := grd (isO 7 a μ) (fX7_worthOf_4  FU a u1 0 0 μ)
set_option maxRecDepth 20000 in
theorem tX7_worthOf {G : Gm} {l : Launch} {r : Int32 × Mu} (a : Nat) (u1 : Int32) (μ : Mu) (hf : fX7_worthOf a u1 μ = some r) : Mt G l yX7_worthOf cX7_worthOf 4 (some .int) (1) 0 0 [.ref (gB G + a), .int u1] μ (some (.int r.1)) r.2 := by
  rw [fX7_worthOf] at hf
  have hf := grd_v hf
  refine Mt.of (by decide) (Nat.le_of_ble_eq_true rfl) (fun p e s m args below meth c => ?_)
  show LX7_worthOf G p l e s m args below meth c r 0 [(0, .ref (gB G + a)), (1, .int u1)] [] μ
  refine x_iconst 0 dX7_worthOf_0 (by decide) ?_
  refine x_istore_n [1, 2, 0] dX7_worthOf_1 (by decide) (lv' := [(0, .ref (gB G + a)), (1, .int u1), (2, .int 0)]) rfl ?_
  refine x_iconst 0 dX7_worthOf_2 (by decide) ?_
  refine x_istore_n [1, 2, 3, 0] dX7_worthOf_3 (by decide) (lv' := [(0, .ref (gB G + a)), (1, .int u1), (2, .int 0), (3, .int 0)]) rfl ?_
  exact tX7_worthOf_4  FU a u1 0 0 μ hf
abbrev LX7_cheap (G : Gm) (p : Program) (l : Launch) (e : Env) (s : State) (m : MethodId) (args : Array Value) (below : List Frame) (meth : Method) (c : Code) (r : Int32 × Mu) (pc : Nat) (lv : List (Nat × Value)) (st : List Value) (μ : Mu) : Prop := Lt G p l e { frames := 2, cells := 0, slots := 0, locals := 40 * (2) } s m args below meth c cX7_cheap 7 RX7 (some .int) "cheap" (MQ below (Qm G (some (.int r.1)) r.2 0) args s 0 0 (fA G)) 0 0 pc lv st μ
def fX7_cheap_97 (k32 : Nat → Int32 → Int32 → Int32 → Int32 → Int32 → Mu → Option (Int32 × Mu)) (v0 : Nat) (v1 : Int32) (v2 : Int32) (v4 : Int32) (v5 : Int32) (v6 : Int32) (s0 : Int32) (μ : Mu) : Option (Int32 × Mu) := (if v4 ≤ v6 then
    k32 v0 v1 v2 s0 v4 (v5 + 1) μ
    else
    k32 v0 v1 v2 s0 v6 (v5 + 1) μ)
set_option maxRecDepth 20000 in
theorem tX7_cheap_97 {G : Gm} {p : Program} {l : Launch} {e : Env} {s : State} {m : MethodId} {args : Array Value} {below : List Frame} {meth : Method} {c : Code} {r : Int32 × Mu} {k32 : Nat → Int32 → Int32 → Int32 → Int32 → Int32 → Mu → Option (Int32 × Mu)} (hk32 : ∀ (v0 : Nat) (v1 : Int32) (v2 : Int32) (v3 : Int32) (v4 : Int32) (v5 : Int32) (μ : Mu), k32 v0 v1 v2 v3 v4 v5 μ = some r → LX7_cheap G p l e s m args below meth c r 32 [(0, .ref (gB G + v0)), (1, .int v1), (2, .int v2), (3, .int v3), (4, .int v4), (5, .int v5)] [] μ) (v0 : Nat) (v1 : Int32) (v2 : Int32) (v4 : Int32) (v5 : Int32) (v6 : Int32) (s0 : Int32) (μ : Mu) (hf : fX7_cheap_97 k32 v0 v1 v2 v4 v5 v6 s0 μ = some r) : LX7_cheap G p l e s m args below meth c r 97 [(0, .ref (gB G + v0)), (1, .int v1), (2, .int v2), (4, .int v4), (5, .int v5), (6, .int v6)] [.int s0] μ := by
  rw [fX7_cheap_97] at hf
  refine x_istore_n [1, 2, 3, 0, 4, 5, 6] dX7_cheap_97 (by decide) (lv' := [(0, .ref (gB G + v0)), (1, .int v1), (2, .int v2), (3, .int s0), (4, .int v4), (5, .int v5), (6, .int v6)]) rfl ?_
  refine x_iload 6 dX7_cheap_98 rfl ?_
  refine x_iload 4 dX7_cheap_100 rfl ?_
  refine x_icmp_ge 110 dX7_cheap_102 rfl (fun c27 => ?_) (fun c27 => ?_)
  · rw [if_pos c27] at hf
    refine x_iload 4 dX7_cheap_110 rfl ?_
    refine x_istore [1, 2, 3, 4, 0, 5, 6] dX7_cheap_112 (by decide) (lv' := [(0, .ref (gB G + v0)), (1, .int v1), (2, .int v2), (3, .int s0), (4, .int v4), (5, .int v5), (6, .int v6)]) rfl ?_
    refine x_iinc 5 (v5 + 1) [1, 2, 3, 4, 5, 0, 6] dX7_cheap_114 rfl rfl (by decide) (lv' := [(0, .ref (gB G + v0)), (1, .int v1), (2, .int v2), (3, .int s0), (4, .int v4), (5, .int (v5 + 1)), (6, .int v6)]) rfl ?_
    refine x_goto 32 dX7_cheap_117 rfl ?_
    refine x_sub [0, 1, 2, 3, 4, 5] (lv' := [(0, .ref (gB G + v0)), (1, .int v1), (2, .int v2), (3, .int s0), (4, .int v4), (5, .int (v5 + 1))]) rfl ?_
    exact hk32 v0 v1 v2 s0 v4 (v5 + 1) μ hf
  · rw [if_neg c27] at hf
    refine x_iload 6 dX7_cheap_105 rfl ?_
    refine x_goto 112 dX7_cheap_107 rfl ?_
    refine x_istore [1, 2, 3, 4, 0, 5, 6] dX7_cheap_112 (by decide) (lv' := [(0, .ref (gB G + v0)), (1, .int v1), (2, .int v2), (3, .int s0), (4, .int v6), (5, .int v5), (6, .int v6)]) rfl ?_
    refine x_iinc 5 (v5 + 1) [1, 2, 3, 4, 5, 0, 6] dX7_cheap_114 rfl rfl (by decide) (lv' := [(0, .ref (gB G + v0)), (1, .int v1), (2, .int v2), (3, .int s0), (4, .int v6), (5, .int (v5 + 1)), (6, .int v6)]) rfl ?_
    refine x_goto 32 dX7_cheap_117 rfl ?_
    refine x_sub [0, 1, 2, 3, 4, 5] (lv' := [(0, .ref (gB G + v0)), (1, .int v1), (2, .int v2), (3, .int s0), (4, .int v6), (5, .int (v5 + 1))]) rfl ?_
    exact hk32 v0 v1 v2 s0 v6 (v5 + 1) μ hf
def fX7_cheap_32 : Nat → Nat → Int32 → Int32 → Int32 → Int32 → Int32 → Mu → Option (Int32 × Mu)
  | 0, _, _, _, _, _, _, _ => none
  | n + 1, v0, v1, v2, v3, v4, v5, μ => (gR 7 v0 2 μ).bind fun x7 =>
    (aI 8 x7 1 μ).bind fun x9 =>
    (if (1 <<< (x9 &&& 31)) ≤ v5 then
    (if v3 = (-4) then
    some (v3, μ)
    else
    (if v2 = 0 then
    some (v3, μ)
    else
    (dvd v4 8).bind fun x14 =>
    some (x14, μ)))
    else
    (fX7_lyingAll v0  μ).bind fun q16 =>
    (if (v5 &&& (q16.1 ^^^ (-1))) = 0 then
    (fX7_worthOf v0 v5 q16.2).bind fun q19 =>
    (if q19.1 < v1 then
    (fX7_cheap_32 n) v0 v1 v2 v3 v4 (v5 + 1) q19.2
    else
    (fX7_stirs v0 v5 q19.2).bind fun q22 =>
    (fX7_ones v5 q22.2).bind fun q24 =>
    (if v4 ≤ ((8 * q22.1) + q24.1) then
    fX7_cheap_97 (fX7_cheap_32 n) v0 v1 v2 v4 v5 ((8 * q22.1) + q24.1) v3 q24.2
    else
    fX7_cheap_97 (fX7_cheap_32 n) v0 v1 v2 v4 v5 ((8 * q22.1) + q24.1) v5 q24.2))
    else
    (fX7_cheap_32 n) v0 v1 v2 v3 v4 (v5 + 1) q16.2))
set_option maxRecDepth 20000 in
theorem tX7_cheap_32 {G : Gm} {p : Program} {l : Launch} {e : Env} {s : State} {m : MethodId} {args : Array Value} {below : List Frame} {meth : Method} {c : Code} {r : Int32 × Mu} : ∀ (n : Nat) (v0 : Nat) (v1 : Int32) (v2 : Int32) (v3 : Int32) (v4 : Int32) (v5 : Int32) (μ : Mu), fX7_cheap_32 n v0 v1 v2 v3 v4 v5 μ = some r → LX7_cheap G p l e s m args below meth c r 32 [(0, .ref (gB G + v0)), (1, .int v1), (2, .int v2), (3, .int v3), (4, .int v4), (5, .int v5)] [] μ := by
  intro n
  induction n with
  | zero =>
    intro v0 v1 v2 v3 v4 v5 μ hf
    simp [fX7_cheap_32] at hf
  | succ n ih =>
    intro v0 v1 v2 v3 v4 v5 μ hf
    rw [fX7_cheap_32] at hf
    refine x_iload 5 dX7_cheap_32 rfl ?_
    refine x_iconst 1 dX7_cheap_34 (by decide) ?_
    refine x_aload_n 0 dX7_cheap_35 rfl ?_
    obtain ⟨x7, h8, hf⟩ := bnd hf
    refine x_getR wF_X7_13 (by decide) (by decide) rfl h8 dX7_cheap_36 ?_
    refine x_iconst 1 dX7_cheap_39 (by decide) ?_
    obtain ⟨x9, h10, hf⟩ := bnd hf
    refine x_iald h10 dX7_cheap_40 ?_
    refine x_ishl dX7_cheap_41 ?_
    refine x_icmp_ge 120 dX7_cheap_42 rfl (fun c11 => ?_) (fun c11 => ?_)
    · rw [if_pos c11] at hf
      refine x_iload_n 3 dX7_cheap_120 rfl ?_
      refine x_bipush (-4) dX7_cheap_121 (by decide) ?_
      refine x_icmp_eq 130 dX7_cheap_123 rfl (fun c12 => ?_) (fun c12 => ?_)
      · rw [if_pos c12] at hf
        refine x_iload_n 3 dX7_cheap_130 rfl ?_
        refine x_goto 139 dX7_cheap_131 rfl ?_
        exact y_iret rfl rfl rfl hf dX7_cheap_139
      · rw [if_neg c12] at hf
        refine x_iload_n 2 dX7_cheap_126 rfl ?_
        refine x_if_ne 134 dX7_cheap_127 rfl (fun c13 => ?_) (fun c13 => ?_)
        · rw [if_neg c13] at hf
          refine x_iload 4 dX7_cheap_134 rfl ?_
          refine x_bipush 8 dX7_cheap_136 (by decide) ?_
          obtain ⟨x14, h15, hf⟩ := bnd hf
          refine x_idiv h15 dX7_cheap_138 ?_
          exact y_iret rfl rfl rfl hf dX7_cheap_139
        · rw [if_pos c13] at hf
          refine x_iload_n 3 dX7_cheap_130 rfl ?_
          refine x_goto 139 dX7_cheap_131 rfl ?_
          exact y_iret rfl rfl rfl hf dX7_cheap_139
    · rw [if_neg c11] at hf
      refine x_iload 5 dX7_cheap_45 rfl ?_
      refine x_aload_n 0 dX7_cheap_47 rfl ?_
      obtain ⟨q16, h17, hf⟩ := bnd hf
      refine x_callVi (rest := [.int v5]) [] (tX7_lyingAll v0  μ h17) wY_X7_lyingAll wI_X7_lyingAll wS_X7_lyingAll wL_X7_171 (grd_p h17) (by decide) rfl rfl (Nat.le_of_ble_eq_true rfl) ⟨Nat.le_of_ble_eq_true rfl, Nat.le_of_ble_eq_true rfl⟩ ⟨Nat.le_refl _, Nat.le_refl _⟩ dX7_cheap_48 ?_
      refine x_iconst (-1) dX7_cheap_51 (by decide) ?_
      refine x_ixor dX7_cheap_52 ?_
      refine x_iand dX7_cheap_53 ?_
      refine x_if_ne 114 dX7_cheap_54 rfl (fun c18 => ?_) (fun c18 => ?_)
      · rw [if_neg c18] at hf
        refine x_iinc 5 (v5 + 1) [1, 2, 3, 4, 5, 0] dX7_cheap_114 rfl rfl (by decide) (lv' := [(0, .ref (gB G + v0)), (1, .int v1), (2, .int v2), (3, .int v3), (4, .int v4), (5, .int (v5 + 1))]) rfl ?_
        refine x_goto 32 dX7_cheap_117 rfl ?_
        exact ih v0 v1 v2 v3 v4 (v5 + 1) q16.2 hf
      · rw [if_pos c18] at hf
        refine x_aload_n 0 dX7_cheap_57 rfl ?_
        refine x_iload 5 dX7_cheap_58 rfl ?_
        obtain ⟨q19, h20, hf⟩ := bnd hf
        refine x_callVi (rest := []) [.int v5] (tX7_worthOf v0 v5 q16.2 h20) wY_X7_worthOf wI_X7_worthOf wS_X7_worthOf wL_X7_177 (grd_p h20) (by decide) rfl rfl (Nat.le_of_ble_eq_true rfl) ⟨Nat.le_of_ble_eq_true rfl, Nat.le_of_ble_eq_true rfl⟩ ⟨Nat.le_refl _, Nat.le_refl _⟩ dX7_cheap_60 ?_
        refine x_iload_n 1 dX7_cheap_63 rfl ?_
        refine x_icmp_lt 114 dX7_cheap_64 rfl (fun c21 => ?_) (fun c21 => ?_)
        · rw [if_pos c21] at hf
          refine x_iinc 5 (v5 + 1) [1, 2, 3, 4, 5, 0] dX7_cheap_114 rfl rfl (by decide) (lv' := [(0, .ref (gB G + v0)), (1, .int v1), (2, .int v2), (3, .int v3), (4, .int v4), (5, .int (v5 + 1))]) rfl ?_
          refine x_goto 32 dX7_cheap_117 rfl ?_
          exact ih v0 v1 v2 v3 v4 (v5 + 1) q19.2 hf
        · rw [if_neg c21] at hf
          refine x_bipush 8 dX7_cheap_67 (by decide) ?_
          refine x_aload_n 0 dX7_cheap_69 rfl ?_
          refine x_iload 5 dX7_cheap_70 rfl ?_
          obtain ⟨q22, h23, hf⟩ := bnd hf
          refine x_callVi (rest := [.int 8]) [.int v5] (tX7_stirs v0 v5 q19.2 h23) wY_X7_stirs wI_X7_stirs wS_X7_stirs wL_X7_174 (grd_p h23) (by decide) rfl rfl (Nat.le_of_ble_eq_true rfl) ⟨Nat.le_of_ble_eq_true rfl, Nat.le_of_ble_eq_true rfl⟩ ⟨Nat.le_refl _, Nat.le_refl _⟩ dX7_cheap_72 ?_
          refine x_imul dX7_cheap_75 ?_
          refine x_iload 5 dX7_cheap_76 rfl ?_
          obtain ⟨q24, h25, hf⟩ := bnd hf
          refine x_callSi (rest := [.int (8 * q22.1)]) [.int v5] (tX7_ones v5 q22.2 h25) wY_X7_ones wT_X7_ones wL_X7_168 rfl (Nat.le_of_ble_eq_true rfl) ⟨Nat.le_of_ble_eq_true rfl, Nat.le_of_ble_eq_true rfl⟩ ⟨Nat.le_refl _, Nat.le_refl _⟩ dX7_cheap_78 ?_
          refine x_iadd dX7_cheap_81 ?_
          refine x_istore [1, 2, 3, 4, 5, 6, 0] dX7_cheap_82 (by decide) (lv' := [(0, .ref (gB G + v0)), (1, .int v1), (2, .int v2), (3, .int v3), (4, .int v4), (5, .int v5), (6, .int ((8 * q22.1) + q24.1))]) rfl ?_
          refine x_iload 6 dX7_cheap_84 rfl ?_
          refine x_iload 4 dX7_cheap_86 rfl ?_
          refine x_icmp_ge 96 dX7_cheap_88 rfl (fun c26 => ?_) (fun c26 => ?_)
          · rw [if_pos c26] at hf
            refine x_iload_n 3 dX7_cheap_96 rfl ?_
            refine x_sub [0, 1, 2, 4, 5, 6] (lv' := [(0, .ref (gB G + v0)), (1, .int v1), (2, .int v2), (4, .int v4), (5, .int v5), (6, .int ((8 * q22.1) + q24.1))]) rfl ?_
            exact tX7_cheap_97 ih v0 v1 v2 v4 v5 ((8 * q22.1) + q24.1) v3 q24.2 hf
          · rw [if_neg c26] at hf
            refine x_iload 5 dX7_cheap_91 rfl ?_
            refine x_goto 97 dX7_cheap_93 rfl ?_
            refine x_sub [0, 1, 2, 4, 5, 6] (lv' := [(0, .ref (gB G + v0)), (1, .int v1), (2, .int v2), (4, .int v4), (5, .int v5), (6, .int ((8 * q22.1) + q24.1))]) rfl ?_
            exact tX7_cheap_97 ih v0 v1 v2 v4 v5 ((8 * q22.1) + q24.1) v5 q24.2 hf
def fX7_cheap (a : Nat) (u1 : Int32) (u2 : Int32) (μ : Mu) : Option (Int32 × Mu) := grd (isO 7 a μ) ((fX7_in u1 1 140 μ).bind fun q1 =>
    (if q1.1 = 0 then
    some ((-1), q1.2)
    else
    (fX7_in u2 0 1 q1.2).bind fun q4 =>
    (if q4.1 = 0 then
    some ((-1), q4.2)
    else
    fX7_cheap_32  FU a u1 u2 (-4) 99 1 q4.2)))
set_option maxRecDepth 20000 in
theorem tX7_cheap {G : Gm} {l : Launch} {r : Int32 × Mu} (a : Nat) (u1 : Int32) (u2 : Int32) (μ : Mu) (hf : fX7_cheap a u1 u2 μ = some r) : Mt G l yX7_cheap cX7_cheap 7 (some .int) (2) 0 0 [.ref (gB G + a), .int u1, .int u2] μ (some (.int r.1)) r.2 := by
  rw [fX7_cheap] at hf
  have hf := grd_v hf
  refine Mt.of (by decide) (Nat.le_of_ble_eq_true rfl) (fun p e s m args below meth c => ?_)
  show LX7_cheap G p l e s m args below meth c r 0 [(0, .ref (gB G + a)), (1, .int u1), (2, .int u2)] [] μ
  refine x_iload_n 1 dX7_cheap_0 rfl ?_
  refine x_iconst 1 dX7_cheap_1 (by decide) ?_
  refine x_sipush 140 dX7_cheap_2 (by decide) ?_
  obtain ⟨q1, h2, hf⟩ := bnd hf
  refine x_callSi (rest := []) [.int u1, .int 1, .int 140] (tX7_in u1 1 140 μ h2) wY_X7_in wT_X7_in wL_X7_56 rfl (Nat.le_of_ble_eq_true rfl) ⟨Nat.le_of_ble_eq_true rfl, Nat.le_of_ble_eq_true rfl⟩ ⟨Nat.le_refl _, Nat.le_refl _⟩ dX7_cheap_5 ?_
  refine x_if_eq 20 dX7_cheap_8 rfl (fun c3 => ?_) (fun c3 => ?_)
  · rw [if_pos c3] at hf
    refine x_iconst (-1) dX7_cheap_20 (by decide) ?_
    exact y_iret rfl rfl rfl hf dX7_cheap_21
  · rw [if_neg c3] at hf
    refine x_iload_n 2 dX7_cheap_11 rfl ?_
    refine x_iconst 0 dX7_cheap_12 (by decide) ?_
    refine x_iconst 1 dX7_cheap_13 (by decide) ?_
    obtain ⟨q4, h5, hf⟩ := bnd hf
    refine x_callSi (rest := []) [.int u2, .int 0, .int 1] (tX7_in u2 0 1 q1.2 h5) wY_X7_in wT_X7_in wL_X7_56 rfl (Nat.le_of_ble_eq_true rfl) ⟨Nat.le_of_ble_eq_true rfl, Nat.le_of_ble_eq_true rfl⟩ ⟨Nat.le_refl _, Nat.le_refl _⟩ dX7_cheap_14 ?_
    refine x_if_ne 22 dX7_cheap_17 rfl (fun c6 => ?_) (fun c6 => ?_)
    · rw [if_neg c6] at hf
      refine x_bipush (-4) dX7_cheap_22 (by decide) ?_
      refine x_istore_n [1, 2, 3, 0] dX7_cheap_24 (by decide) (lv' := [(0, .ref (gB G + a)), (1, .int u1), (2, .int u2), (3, .int (-4))]) rfl ?_
      refine x_bipush 99 dX7_cheap_25 (by decide) ?_
      refine x_istore [1, 2, 3, 4, 0] dX7_cheap_27 (by decide) (lv' := [(0, .ref (gB G + a)), (1, .int u1), (2, .int u2), (3, .int (-4)), (4, .int 99)]) rfl ?_
      refine x_iconst 1 dX7_cheap_29 (by decide) ?_
      refine x_istore [1, 2, 3, 4, 5, 0] dX7_cheap_30 (by decide) (lv' := [(0, .ref (gB G + a)), (1, .int u1), (2, .int u2), (3, .int (-4)), (4, .int 99), (5, .int 1)]) rfl ?_
      exact tX7_cheap_32  FU a u1 u2 (-4) 99 1 q4.2 hf
    · rw [if_pos c6] at hf
      refine x_iconst (-1) dX7_cheap_20 (by decide) ?_
      exact y_iret rfl rfl rfl hf dX7_cheap_21
abbrev LX7_deeper (G : Gm) (p : Program) (l : Launch) (e : Env) (s : State) (m : MethodId) (args : Array Value) (below : List Frame) (meth : Method) (c : Code) (r : Int32 × Mu) (pc : Nat) (lv : List (Nat × Value)) (st : List Value) (μ : Mu) : Prop := Lt G p l e { frames := 5, cells := 0, slots := 0, locals := 40 * (5) } s m args below meth c cX7_deeper 6 RX7 (some .int) "deeper" (MQ below (Qm G (some (.int r.1)) r.2 0) args s 0 0 (fA G)) 0 0 pc lv st μ
def fX7_deeper_89 (k20 : Nat → Int32 → Int32 → Int32 → Int32 → Mu → Option (Int32 × Mu)) (v0 : Nat) (v1 : Int32) (v3 : Int32) (v4 : Int32) (v5 : Int32) (s0 : Int32) (μ : Mu) : Option (Int32 × Mu) := (if v5 ≤ v3 then
    k20 v0 v1 s0 v3 (v4 + 1) μ
    else
    k20 v0 v1 s0 v5 (v4 + 1) μ)
set_option maxRecDepth 20000 in
theorem tX7_deeper_89 {G : Gm} {p : Program} {l : Launch} {e : Env} {s : State} {m : MethodId} {args : Array Value} {below : List Frame} {meth : Method} {c : Code} {r : Int32 × Mu} {k20 : Nat → Int32 → Int32 → Int32 → Int32 → Mu → Option (Int32 × Mu)} (hk20 : ∀ (v0 : Nat) (v1 : Int32) (v2 : Int32) (v3 : Int32) (v4 : Int32) (μ : Mu), k20 v0 v1 v2 v3 v4 μ = some r → LX7_deeper G p l e s m args below meth c r 20 [(0, .ref (gB G + v0)), (1, .int v1), (2, .int v2), (3, .int v3), (4, .int v4)] [] μ) (v0 : Nat) (v1 : Int32) (v3 : Int32) (v4 : Int32) (v5 : Int32) (s0 : Int32) (μ : Mu) (hf : fX7_deeper_89 k20 v0 v1 v3 v4 v5 s0 μ = some r) : LX7_deeper G p l e s m args below meth c r 89 [(0, .ref (gB G + v0)), (1, .int v1), (3, .int v3), (4, .int v4), (5, .int v5)] [.int s0] μ := by
  rw [fX7_deeper_89] at hf
  refine x_istore_n [1, 2, 0, 3, 4, 5] dX7_deeper_89 (by decide) (lv' := [(0, .ref (gB G + v0)), (1, .int v1), (2, .int s0), (3, .int v3), (4, .int v4), (5, .int v5)]) rfl ?_
  refine x_iload 5 dX7_deeper_90 rfl ?_
  refine x_iload_n 3 dX7_deeper_92 rfl ?_
  refine x_icmp_le 101 dX7_deeper_93 rfl (fun c30 => ?_) (fun c30 => ?_)
  · rw [if_pos c30] at hf
    refine x_iload_n 3 dX7_deeper_101 rfl ?_
    refine x_istore_n [1, 2, 3, 0, 4, 5] dX7_deeper_102 (by decide) (lv' := [(0, .ref (gB G + v0)), (1, .int v1), (2, .int s0), (3, .int v3), (4, .int v4), (5, .int v5)]) rfl ?_
    refine x_iinc 4 (v4 + 1) [1, 2, 3, 4, 0, 5] dX7_deeper_103 rfl rfl (by decide) (lv' := [(0, .ref (gB G + v0)), (1, .int v1), (2, .int s0), (3, .int v3), (4, .int (v4 + 1)), (5, .int v5)]) rfl ?_
    refine x_goto 20 dX7_deeper_106 rfl ?_
    refine x_sub [0, 1, 2, 3, 4] (lv' := [(0, .ref (gB G + v0)), (1, .int v1), (2, .int s0), (3, .int v3), (4, .int (v4 + 1))]) rfl ?_
    exact hk20 v0 v1 s0 v3 (v4 + 1) μ hf
  · rw [if_neg c30] at hf
    refine x_iload 5 dX7_deeper_96 rfl ?_
    refine x_goto 102 dX7_deeper_98 rfl ?_
    refine x_istore_n [1, 2, 3, 0, 4, 5] dX7_deeper_102 (by decide) (lv' := [(0, .ref (gB G + v0)), (1, .int v1), (2, .int s0), (3, .int v5), (4, .int v4), (5, .int v5)]) rfl ?_
    refine x_iinc 4 (v4 + 1) [1, 2, 3, 4, 0, 5] dX7_deeper_103 rfl rfl (by decide) (lv' := [(0, .ref (gB G + v0)), (1, .int v1), (2, .int s0), (3, .int v5), (4, .int (v4 + 1)), (5, .int v5)]) rfl ?_
    refine x_goto 20 dX7_deeper_106 rfl ?_
    refine x_sub [0, 1, 2, 3, 4] (lv' := [(0, .ref (gB G + v0)), (1, .int v1), (2, .int s0), (3, .int v5), (4, .int (v4 + 1))]) rfl ?_
    exact hk20 v0 v1 s0 v5 (v4 + 1) μ hf
def fX7_deeper_20 : Nat → Nat → Int32 → Int32 → Int32 → Int32 → Mu → Option (Int32 × Mu)
  | 0, _, _, _, _, _, _ => none
  | n + 1, v0, v1, v2, v3, v4, μ => (gR 7 v0 2 μ).bind fun x4 =>
    (aI 8 x4 0 μ).bind fun x6 =>
    (if x6 ≤ v4 then
    (if v1 = 0 then
    some (v2, μ)
    else
    some (v3, μ))
    else
    (gR 7 v0 4 μ).bind fun x10 =>
    (aI 8 x10 (2 + v4) μ).bind fun x12 =>
    (if 9 ≤ x12 then
    (fX7_deeper_20 n) v0 v1 v2 v3 (v4 + 1) μ
    else
    (gR 7 v0 4 μ).bind fun x15 =>
    (aI 8 x15 (2 + v4) μ).bind fun x17 =>
    (bI 8 x15 (2 + v4) (x17 + 1) μ).bind fun m19 =>
    (fX7_packed v0  m19).bind fun q21 =>
    (gR 7 v0 4 q21.2).bind fun x23 =>
    (aI 8 x23 (2 + v4) q21.2).bind fun x25 =>
    (bI 8 x23 (2 + v4) (x25 - 1) q21.2).bind fun m27 =>
    (if q21.1 ≤ v3 then
    fX7_deeper_89 (fX7_deeper_20 n) v0 v1 v3 v4 q21.1 v2 m27
    else
    fX7_deeper_89 (fX7_deeper_20 n) v0 v1 v3 v4 q21.1 v4 m27)))
set_option maxRecDepth 20000 in
theorem tX7_deeper_20 {G : Gm} {p : Program} {l : Launch} {e : Env} {s : State} {m : MethodId} {args : Array Value} {below : List Frame} {meth : Method} {c : Code} {r : Int32 × Mu} : ∀ (n : Nat) (v0 : Nat) (v1 : Int32) (v2 : Int32) (v3 : Int32) (v4 : Int32) (μ : Mu), fX7_deeper_20 n v0 v1 v2 v3 v4 μ = some r → LX7_deeper G p l e s m args below meth c r 20 [(0, .ref (gB G + v0)), (1, .int v1), (2, .int v2), (3, .int v3), (4, .int v4)] [] μ := by
  intro n
  induction n with
  | zero =>
    intro v0 v1 v2 v3 v4 μ hf
    simp [fX7_deeper_20] at hf
  | succ n ih =>
    intro v0 v1 v2 v3 v4 μ hf
    rw [fX7_deeper_20] at hf
    refine x_iload 4 dX7_deeper_20 rfl ?_
    refine x_aload_n 0 dX7_deeper_22 rfl ?_
    obtain ⟨x4, h5, hf⟩ := bnd hf
    refine x_getR wF_X7_13 (by decide) (by decide) rfl h5 dX7_deeper_23 ?_
    refine x_iconst 0 dX7_deeper_26 (by decide) ?_
    obtain ⟨x6, h7, hf⟩ := bnd hf
    refine x_iald h7 dX7_deeper_27 ?_
    refine x_icmp_ge 109 dX7_deeper_28 rfl (fun c8 => ?_) (fun c8 => ?_)
    · rw [if_pos c8] at hf
      refine x_iload_n 1 dX7_deeper_109 rfl ?_
      refine x_if_ne 117 dX7_deeper_110 rfl (fun c9 => ?_) (fun c9 => ?_)
      · rw [if_neg c9] at hf
        refine x_iload_n 3 dX7_deeper_117 rfl ?_
        exact y_iret rfl rfl rfl hf dX7_deeper_118
      · rw [if_pos c9] at hf
        refine x_iload_n 2 dX7_deeper_113 rfl ?_
        refine x_goto 118 dX7_deeper_114 rfl ?_
        exact y_iret rfl rfl rfl hf dX7_deeper_118
    · rw [if_neg c8] at hf
      refine x_aload_n 0 dX7_deeper_31 rfl ?_
      obtain ⟨x10, h11, hf⟩ := bnd hf
      refine x_getR wF_X7_19 (by decide) (by decide) rfl h11 dX7_deeper_32 ?_
      refine x_iconst 2 dX7_deeper_35 (by decide) ?_
      refine x_iload 4 dX7_deeper_36 rfl ?_
      refine x_iadd dX7_deeper_38 ?_
      obtain ⟨x12, h13, hf⟩ := bnd hf
      refine x_iald h13 dX7_deeper_39 ?_
      refine x_bipush 9 dX7_deeper_40 (by decide) ?_
      refine x_icmp_ge 103 dX7_deeper_42 rfl (fun c14 => ?_) (fun c14 => ?_)
      · rw [if_pos c14] at hf
        refine x_iinc 4 (v4 + 1) [1, 2, 3, 4, 0] dX7_deeper_103 rfl rfl (by decide) (lv' := [(0, .ref (gB G + v0)), (1, .int v1), (2, .int v2), (3, .int v3), (4, .int (v4 + 1))]) rfl ?_
        refine x_goto 20 dX7_deeper_106 rfl ?_
        exact ih v0 v1 v2 v3 (v4 + 1) μ hf
      · rw [if_neg c14] at hf
        refine x_aload_n 0 dX7_deeper_45 rfl ?_
        obtain ⟨x15, h16, hf⟩ := bnd hf
        refine x_getR wF_X7_19 (by decide) (by decide) rfl h16 dX7_deeper_46 ?_
        refine x_iconst 2 dX7_deeper_49 (by decide) ?_
        refine x_iload 4 dX7_deeper_50 rfl ?_
        refine x_iadd dX7_deeper_52 ?_
        refine x_dup2 dX7_deeper_53 rfl rfl ?_
        obtain ⟨x17, h18, hf⟩ := bnd hf
        refine x_iald h18 dX7_deeper_54 ?_
        refine x_iconst 1 dX7_deeper_55 (by decide) ?_
        refine x_iadd dX7_deeper_56 ?_
        obtain ⟨m19, h20, hf⟩ := bnd hf
        refine x_iast h20 dX7_deeper_57 ?_
        refine x_aload_n 0 dX7_deeper_58 rfl ?_
        obtain ⟨q21, h22, hf⟩ := bnd hf
        refine x_callVi (rest := []) [] (tX7_packed v0  m19 h22) wY_X7_packed wI_X7_packed wS_X7_packed wL_X7_162 (grd_p h22) (by decide) rfl rfl (Nat.le_of_ble_eq_true rfl) ⟨Nat.le_of_ble_eq_true rfl, Nat.le_of_ble_eq_true rfl⟩ ⟨Nat.le_refl _, Nat.le_refl _⟩ dX7_deeper_59 ?_
        refine x_istore [1, 2, 3, 4, 5, 0] dX7_deeper_62 (by decide) (lv' := [(0, .ref (gB G + v0)), (1, .int v1), (2, .int v2), (3, .int v3), (4, .int v4), (5, .int q21.1)]) rfl ?_
        refine x_aload_n 0 dX7_deeper_64 rfl ?_
        obtain ⟨x23, h24, hf⟩ := bnd hf
        refine x_getR wF_X7_19 (by decide) (by decide) rfl h24 dX7_deeper_65 ?_
        refine x_iconst 2 dX7_deeper_68 (by decide) ?_
        refine x_iload 4 dX7_deeper_69 rfl ?_
        refine x_iadd dX7_deeper_71 ?_
        refine x_dup2 dX7_deeper_72 rfl rfl ?_
        obtain ⟨x25, h26, hf⟩ := bnd hf
        refine x_iald h26 dX7_deeper_73 ?_
        refine x_iconst 1 dX7_deeper_74 (by decide) ?_
        refine x_isub dX7_deeper_75 ?_
        obtain ⟨m27, h28, hf⟩ := bnd hf
        refine x_iast h28 dX7_deeper_76 ?_
        refine x_iload 5 dX7_deeper_77 rfl ?_
        refine x_iload_n 3 dX7_deeper_79 rfl ?_
        refine x_icmp_le 88 dX7_deeper_80 rfl (fun c29 => ?_) (fun c29 => ?_)
        · rw [if_pos c29] at hf
          refine x_iload_n 2 dX7_deeper_88 rfl ?_
          refine x_sub [0, 1, 3, 4, 5] (lv' := [(0, .ref (gB G + v0)), (1, .int v1), (3, .int v3), (4, .int v4), (5, .int q21.1)]) rfl ?_
          exact tX7_deeper_89 ih v0 v1 v3 v4 q21.1 v2 m27 hf
        · rw [if_neg c29] at hf
          refine x_iload 4 dX7_deeper_83 rfl ?_
          refine x_goto 89 dX7_deeper_85 rfl ?_
          refine x_sub [0, 1, 3, 4, 5] (lv' := [(0, .ref (gB G + v0)), (1, .int v1), (3, .int v3), (4, .int v4), (5, .int q21.1)]) rfl ?_
          exact tX7_deeper_89 ih v0 v1 v3 v4 q21.1 v4 m27 hf
def fX7_deeper (a : Nat) (u1 : Int32) (μ : Mu) : Option (Int32 × Mu) := grd (isO 7 a μ) ((fX7_in u1 0 1 μ).bind fun q1 =>
    (if q1.1 = 0 then
    some ((-1), q1.2)
    else
    fX7_deeper_20  FU a u1 (-4) (-4) 0 q1.2))
set_option maxRecDepth 20000 in
theorem tX7_deeper {G : Gm} {l : Launch} {r : Int32 × Mu} (a : Nat) (u1 : Int32) (μ : Mu) (hf : fX7_deeper a u1 μ = some r) : Mt G l yX7_deeper cX7_deeper 6 (some .int) (5) 0 0 [.ref (gB G + a), .int u1] μ (some (.int r.1)) r.2 := by
  rw [fX7_deeper] at hf
  have hf := grd_v hf
  refine Mt.of (by decide) (Nat.le_of_ble_eq_true rfl) (fun p e s m args below meth c => ?_)
  show LX7_deeper G p l e s m args below meth c r 0 [(0, .ref (gB G + a)), (1, .int u1)] [] μ
  refine x_iload_n 1 dX7_deeper_0 rfl ?_
  refine x_iconst 0 dX7_deeper_1 (by decide) ?_
  refine x_iconst 1 dX7_deeper_2 (by decide) ?_
  obtain ⟨q1, h2, hf⟩ := bnd hf
  refine x_callSi (rest := []) [.int u1, .int 0, .int 1] (tX7_in u1 0 1 μ h2) wY_X7_in wT_X7_in wL_X7_56 rfl (Nat.le_of_ble_eq_true rfl) ⟨Nat.le_of_ble_eq_true rfl, Nat.le_of_ble_eq_true rfl⟩ ⟨Nat.le_refl _, Nat.le_refl _⟩ dX7_deeper_3 ?_
  refine x_if_ne 11 dX7_deeper_6 rfl (fun c3 => ?_) (fun c3 => ?_)
  · rw [if_neg c3] at hf
    refine x_bipush (-4) dX7_deeper_11 (by decide) ?_
    refine x_istore_n [1, 2, 0] dX7_deeper_13 (by decide) (lv' := [(0, .ref (gB G + a)), (1, .int u1), (2, .int (-4))]) rfl ?_
    refine x_bipush (-4) dX7_deeper_14 (by decide) ?_
    refine x_istore_n [1, 2, 3, 0] dX7_deeper_16 (by decide) (lv' := [(0, .ref (gB G + a)), (1, .int u1), (2, .int (-4)), (3, .int (-4))]) rfl ?_
    refine x_iconst 0 dX7_deeper_17 (by decide) ?_
    refine x_istore [1, 2, 3, 4, 0] dX7_deeper_18 (by decide) (lv' := [(0, .ref (gB G + a)), (1, .int u1), (2, .int (-4)), (3, .int (-4)), (4, .int 0)]) rfl ?_
    exact tX7_deeper_20  FU a u1 (-4) (-4) 0 q1.2 hf
  · rw [if_pos c3] at hf
    refine x_iconst (-1) dX7_deeper_9 (by decide) ?_
    exact y_iret rfl rfl rfl hf dX7_deeper_10
abbrev LX7_years (G : Gm) (p : Program) (l : Launch) (e : Env) (s : State) (m : MethodId) (args : Array Value) (below : List Frame) (meth : Method) (c : Code) (r : Int32 × Mu) (pc : Nat) (lv : List (Nat × Value)) (st : List Value) (μ : Mu) : Prop := Lt G p l e { frames := 3, cells := 0, slots := 0, locals := 40 * (3) } s m args below meth c cX7_years 4 RX7 (some .int) "years" (MQ below (Qm G (some (.int r.1)) r.2 0) args s 0 0 (fA G)) 0 0 pc lv st μ
def fX7_years_20 : Nat → Nat → Int32 → Int32 → Int32 → Mu → Option (Int32 × Mu)
  | 0, _, _, _, _, _ => none
  | n + 1, v0, v1, v2, v3, μ => (if v1 ≤ v3 then
    (fX7_lets v0  μ).bind fun q7 =>
    some (v2, q7)
    else
    (fX7_passes v0 1 μ).bind fun q9 =>
    (if q9.1 = 0 then
    (fX7_years_20 n) v0 v1 (v2 + 0) (v3 + 1) q9.2
    else
    (fX7_years_20 n) v0 v1 (v2 + 1) (v3 + 1) q9.2))
set_option maxRecDepth 20000 in
theorem tX7_years_20 {G : Gm} {p : Program} {l : Launch} {e : Env} {s : State} {m : MethodId} {args : Array Value} {below : List Frame} {meth : Method} {c : Code} {r : Int32 × Mu} : ∀ (n : Nat) (v0 : Nat) (v1 : Int32) (v2 : Int32) (v3 : Int32) (μ : Mu), fX7_years_20 n v0 v1 v2 v3 μ = some r → LX7_years G p l e s m args below meth c r 20 [(0, .ref (gB G + v0)), (1, .int v1), (2, .int v2), (3, .int v3)] [] μ := by
  intro n
  induction n with
  | zero =>
    intro v0 v1 v2 v3 μ hf
    simp [fX7_years_20] at hf
  | succ n ih =>
    intro v0 v1 v2 v3 μ hf
    rw [fX7_years_20] at hf
    refine x_iload_n 3 dX7_years_20 rfl ?_
    refine x_iload_n 1 dX7_years_21 rfl ?_
    refine x_icmp_ge 47 dX7_years_22 rfl (fun c6 => ?_) (fun c6 => ?_)
    · rw [if_pos c6] at hf
      refine x_aload_n 0 dX7_years_47 rfl ?_
      obtain ⟨q7, h8, hf⟩ := bnd hf
      refine x_callVv (rest := []) [] (tX7_lets v0  μ h8) wY_X7_lets wI_X7_lets wS_X7_lets wL_X7_118 (grd_p h8) (by decide) rfl rfl (Nat.le_of_ble_eq_true rfl) ⟨Nat.le_of_ble_eq_true rfl, Nat.le_of_ble_eq_true rfl⟩ ⟨Nat.le_refl _, Nat.le_refl _⟩ dX7_years_48 ?_
      refine x_iload_n 2 dX7_years_51 rfl ?_
      exact y_iret rfl rfl rfl hf dX7_years_52
    · rw [if_neg c6] at hf
      refine x_iload_n 2 dX7_years_25 rfl ?_
      refine x_aload_n 0 dX7_years_26 rfl ?_
      refine x_iconst 1 dX7_years_27 (by decide) ?_
      obtain ⟨q9, h10, hf⟩ := bnd hf
      refine x_callVi (rest := [.int v2]) [.int 1] (tX7_passes v0 1 μ h10) wY_X7_passes wI_X7_passes wS_X7_passes wL_X7_142 (grd_p h10) (by decide) rfl rfl (Nat.le_of_ble_eq_true rfl) ⟨Nat.le_of_ble_eq_true rfl, Nat.le_of_ble_eq_true rfl⟩ ⟨Nat.le_refl _, Nat.le_refl _⟩ dX7_years_28 ?_
      refine x_if_eq 38 dX7_years_31 rfl (fun c11 => ?_) (fun c11 => ?_)
      · rw [if_pos c11] at hf
        refine x_iconst 0 dX7_years_38 (by decide) ?_
        refine x_iadd dX7_years_39 ?_
        refine x_istore_n [1, 2, 0, 3] dX7_years_40 (by decide) (lv' := [(0, .ref (gB G + v0)), (1, .int v1), (2, .int (v2 + 0)), (3, .int v3)]) rfl ?_
        refine x_iinc 3 (v3 + 1) [1, 2, 3, 0] dX7_years_41 rfl rfl (by decide) (lv' := [(0, .ref (gB G + v0)), (1, .int v1), (2, .int (v2 + 0)), (3, .int (v3 + 1))]) rfl ?_
        refine x_goto 20 dX7_years_44 rfl ?_
        exact ih v0 v1 (v2 + 0) (v3 + 1) q9.2 hf
      · rw [if_neg c11] at hf
        refine x_iconst 1 dX7_years_34 (by decide) ?_
        refine x_goto 39 dX7_years_35 rfl ?_
        refine x_iadd dX7_years_39 ?_
        refine x_istore_n [1, 2, 0, 3] dX7_years_40 (by decide) (lv' := [(0, .ref (gB G + v0)), (1, .int v1), (2, .int (v2 + 1)), (3, .int v3)]) rfl ?_
        refine x_iinc 3 (v3 + 1) [1, 2, 3, 0] dX7_years_41 rfl rfl (by decide) (lv' := [(0, .ref (gB G + v0)), (1, .int v1), (2, .int (v2 + 1)), (3, .int (v3 + 1))]) rfl ?_
        refine x_goto 20 dX7_years_44 rfl ?_
        exact ih v0 v1 (v2 + 1) (v3 + 1) q9.2 hf
def fX7_years (a : Nat) (u1 : Int32) (μ : Mu) : Option (Int32 × Mu) := grd (isO 7 a μ) ((fX7_in u1 1 20 μ).bind fun q1 =>
    (if q1.1 = 0 then
    some ((-1), q1.2)
    else
    (fX7_looks a  q1.2).bind fun q4 =>
    fX7_years_20  FU a u1 0 0 q4))
set_option maxRecDepth 20000 in
theorem tX7_years {G : Gm} {l : Launch} {r : Int32 × Mu} (a : Nat) (u1 : Int32) (μ : Mu) (hf : fX7_years a u1 μ = some r) : Mt G l yX7_years cX7_years 4 (some .int) (3) 0 0 [.ref (gB G + a), .int u1] μ (some (.int r.1)) r.2 := by
  rw [fX7_years] at hf
  have hf := grd_v hf
  refine Mt.of (by decide) (Nat.le_of_ble_eq_true rfl) (fun p e s m args below meth c => ?_)
  show LX7_years G p l e s m args below meth c r 0 [(0, .ref (gB G + a)), (1, .int u1)] [] μ
  refine x_iload_n 1 dX7_years_0 rfl ?_
  refine x_iconst 1 dX7_years_1 (by decide) ?_
  refine x_bipush 20 dX7_years_2 (by decide) ?_
  obtain ⟨q1, h2, hf⟩ := bnd hf
  refine x_callSi (rest := []) [.int u1, .int 1, .int 20] (tX7_in u1 1 20 μ h2) wY_X7_in wT_X7_in wL_X7_56 rfl (Nat.le_of_ble_eq_true rfl) ⟨Nat.le_of_ble_eq_true rfl, Nat.le_of_ble_eq_true rfl⟩ ⟨Nat.le_refl _, Nat.le_refl _⟩ dX7_years_4 ?_
  refine x_if_ne 12 dX7_years_7 rfl (fun c3 => ?_) (fun c3 => ?_)
  · rw [if_neg c3] at hf
    refine x_aload_n 0 dX7_years_12 rfl ?_
    obtain ⟨q4, h5, hf⟩ := bnd hf
    refine x_callVv (rest := []) [] (tX7_looks a  q1.2 h5) wY_X7_looks wI_X7_looks wS_X7_looks wL_X7_153 (grd_p h5) (by decide) rfl rfl (Nat.le_of_ble_eq_true rfl) ⟨Nat.le_of_ble_eq_true rfl, Nat.le_of_ble_eq_true rfl⟩ ⟨Nat.le_refl _, Nat.le_refl _⟩ dX7_years_13 ?_
    refine x_iconst 0 dX7_years_16 (by decide) ?_
    refine x_istore_n [1, 2, 0] dX7_years_17 (by decide) (lv' := [(0, .ref (gB G + a)), (1, .int u1), (2, .int 0)]) rfl ?_
    refine x_iconst 0 dX7_years_18 (by decide) ?_
    refine x_istore_n [1, 2, 3, 0] dX7_years_19 (by decide) (lv' := [(0, .ref (gB G + a)), (1, .int u1), (2, .int 0), (3, .int 0)]) rfl ?_
    exact tX7_years_20  FU a u1 0 0 q4 hf
  · rw [if_pos c3] at hf
    refine x_iconst (-1) dX7_years_10 (by decide) ?_
    exact y_iret rfl rfl rfl hf dX7_years_11
abbrev LX7_seen (G : Gm) (p : Program) (l : Launch) (e : Env) (s : State) (m : MethodId) (args : Array Value) (below : List Frame) (meth : Method) (c : Code) (r : Int32 × Mu) (pc : Nat) (lv : List (Nat × Value)) (st : List Value) (μ : Mu) : Prop := Lt G p l e { frames := 2, cells := 0, slots := 0, locals := 40 * (2) } s m args below meth c cX7_seen 4 RX7 (some .int) "seen" (MQ below (Qm G (some (.int r.1)) r.2 0) args s 0 0 (fA G)) 0 0 pc lv st μ
def fX7_seen (a : Nat) (u1 : Int32) (u2 : Int32) (u3 : Int32) (μ : Mu) : Option (Int32 × Mu) := grd (isO 7 a μ) ((fX7_in u1 0 20 μ).bind fun q1 =>
    (if q1.1 = 0 then
    some ((-1), q1.2)
    else
    (fX7_isHour a u2 q1.2).bind fun q4 =>
    (if q4.1 = 0 then
    some ((-1), q4.2)
    else
    (fX7_in u3 0 1 q4.2).bind fun q7 =>
    (if q7.1 = 0 then
    some ((-1), q7.2)
    else
    (gI 7 a 10 q7.2).bind fun x10 =>
    (if x10 = 6 then
    some ((-3), q7.2)
    else
    (gR 7 a 9 q7.2).bind fun x13 =>
    (gI 7 a 10 q7.2).bind fun x15 =>
    (bI 8 x13 (3 * x15) u1 q7.2).bind fun m17 =>
    (gR 7 a 9 m17).bind fun x19 =>
    (gI 7 a 10 m17).bind fun x21 =>
    (bI 8 x19 ((3 * x21) + 1) u2 m17).bind fun m23 =>
    (gR 7 a 9 m23).bind fun x25 =>
    (gI 7 a 10 m23).bind fun x27 =>
    (bI 8 x25 ((3 * x27) + 2) u3 m23).bind fun m29 =>
    (gI 7 a 10 m29).bind fun x31 =>
    (pI 7 a 10 (x31 + 1) m29).bind fun m33 =>
    (gI 7 a 10 m33).bind fun x35 =>
    some (x35, m33))))))
set_option maxRecDepth 20000 in
theorem tX7_seen {G : Gm} {l : Launch} {r : Int32 × Mu} (a : Nat) (u1 : Int32) (u2 : Int32) (u3 : Int32) (μ : Mu) (hf : fX7_seen a u1 u2 u3 μ = some r) : Mt G l yX7_seen cX7_seen 4 (some .int) (2) 0 0 [.ref (gB G + a), .int u1, .int u2, .int u3] μ (some (.int r.1)) r.2 := by
  rw [fX7_seen] at hf
  have hf := grd_v hf
  refine Mt.of (by decide) (Nat.le_of_ble_eq_true rfl) (fun p e s m args below meth c => ?_)
  show LX7_seen G p l e s m args below meth c r 0 [(0, .ref (gB G + a)), (1, .int u1), (2, .int u2), (3, .int u3)] [] μ
  refine x_iload_n 1 dX7_seen_0 rfl ?_
  refine x_iconst 0 dX7_seen_1 (by decide) ?_
  refine x_bipush 20 dX7_seen_2 (by decide) ?_
  obtain ⟨q1, h2, hf⟩ := bnd hf
  refine x_callSi (rest := []) [.int u1, .int 0, .int 20] (tX7_in u1 0 20 μ h2) wY_X7_in wT_X7_in wL_X7_56 rfl (Nat.le_of_ble_eq_true rfl) ⟨Nat.le_of_ble_eq_true rfl, Nat.le_of_ble_eq_true rfl⟩ ⟨Nat.le_refl _, Nat.le_refl _⟩ dX7_seen_4 ?_
  refine x_if_eq 27 dX7_seen_7 rfl (fun c3 => ?_) (fun c3 => ?_)
  · rw [if_pos c3] at hf
    refine x_iconst (-1) dX7_seen_27 (by decide) ?_
    exact y_iret rfl rfl rfl hf dX7_seen_28
  · rw [if_neg c3] at hf
    refine x_aload_n 0 dX7_seen_10 rfl ?_
    refine x_iload_n 2 dX7_seen_11 rfl ?_
    obtain ⟨q4, h5, hf⟩ := bnd hf
    refine x_callVi (rest := []) [.int u2] (tX7_isHour a u2 q1.2 h5) wY_X7_isHour wI_X7_isHour wS_X7_isHour wL_X7_133 (grd_p h5) (by decide) rfl rfl (Nat.le_of_ble_eq_true rfl) ⟨Nat.le_of_ble_eq_true rfl, Nat.le_of_ble_eq_true rfl⟩ ⟨Nat.le_refl _, Nat.le_refl _⟩ dX7_seen_12 ?_
    refine x_if_eq 27 dX7_seen_15 rfl (fun c6 => ?_) (fun c6 => ?_)
    · rw [if_pos c6] at hf
      refine x_iconst (-1) dX7_seen_27 (by decide) ?_
      exact y_iret rfl rfl rfl hf dX7_seen_28
    · rw [if_neg c6] at hf
      refine x_iload_n 3 dX7_seen_18 rfl ?_
      refine x_iconst 0 dX7_seen_19 (by decide) ?_
      refine x_iconst 1 dX7_seen_20 (by decide) ?_
      obtain ⟨q7, h8, hf⟩ := bnd hf
      refine x_callSi (rest := []) [.int u3, .int 0, .int 1] (tX7_in u3 0 1 q4.2 h8) wY_X7_in wT_X7_in wL_X7_56 rfl (Nat.le_of_ble_eq_true rfl) ⟨Nat.le_of_ble_eq_true rfl, Nat.le_of_ble_eq_true rfl⟩ ⟨Nat.le_refl _, Nat.le_refl _⟩ dX7_seen_21 ?_
      refine x_if_ne 29 dX7_seen_24 rfl (fun c9 => ?_) (fun c9 => ?_)
      · rw [if_neg c9] at hf
        refine x_aload_n 0 dX7_seen_29 rfl ?_
        obtain ⟨x10, h11, hf⟩ := bnd hf
        refine x_getI wF_X7_127 (by decide) (by decide) rfl h11 dX7_seen_30 ?_
        refine x_bipush 6 dX7_seen_33 (by decide) ?_
        refine x_icmp_ne 41 dX7_seen_35 rfl (fun c12 => ?_) (fun c12 => ?_)
        · rw [if_neg c12] at hf
          refine x_aload_n 0 dX7_seen_41 rfl ?_
          obtain ⟨x13, h14, hf⟩ := bnd hf
          refine x_getR wF_X7_28 (by decide) (by decide) rfl h14 dX7_seen_42 ?_
          refine x_iconst 3 dX7_seen_45 (by decide) ?_
          refine x_aload_n 0 dX7_seen_46 rfl ?_
          obtain ⟨x15, h16, hf⟩ := bnd hf
          refine x_getI wF_X7_127 (by decide) (by decide) rfl h16 dX7_seen_47 ?_
          refine x_imul dX7_seen_50 ?_
          refine x_iload_n 1 dX7_seen_51 rfl ?_
          obtain ⟨m17, h18, hf⟩ := bnd hf
          refine x_iast h18 dX7_seen_52 ?_
          refine x_aload_n 0 dX7_seen_53 rfl ?_
          obtain ⟨x19, h20, hf⟩ := bnd hf
          refine x_getR wF_X7_28 (by decide) (by decide) rfl h20 dX7_seen_54 ?_
          refine x_iconst 3 dX7_seen_57 (by decide) ?_
          refine x_aload_n 0 dX7_seen_58 rfl ?_
          obtain ⟨x21, h22, hf⟩ := bnd hf
          refine x_getI wF_X7_127 (by decide) (by decide) rfl h22 dX7_seen_59 ?_
          refine x_imul dX7_seen_62 ?_
          refine x_iconst 1 dX7_seen_63 (by decide) ?_
          refine x_iadd dX7_seen_64 ?_
          refine x_iload_n 2 dX7_seen_65 rfl ?_
          obtain ⟨m23, h24, hf⟩ := bnd hf
          refine x_iast h24 dX7_seen_66 ?_
          refine x_aload_n 0 dX7_seen_67 rfl ?_
          obtain ⟨x25, h26, hf⟩ := bnd hf
          refine x_getR wF_X7_28 (by decide) (by decide) rfl h26 dX7_seen_68 ?_
          refine x_iconst 3 dX7_seen_71 (by decide) ?_
          refine x_aload_n 0 dX7_seen_72 rfl ?_
          obtain ⟨x27, h28, hf⟩ := bnd hf
          refine x_getI wF_X7_127 (by decide) (by decide) rfl h28 dX7_seen_73 ?_
          refine x_imul dX7_seen_76 ?_
          refine x_iconst 2 dX7_seen_77 (by decide) ?_
          refine x_iadd dX7_seen_78 ?_
          refine x_iload_n 3 dX7_seen_79 rfl ?_
          obtain ⟨m29, h30, hf⟩ := bnd hf
          refine x_iast h30 dX7_seen_80 ?_
          refine x_aload_n 0 dX7_seen_81 rfl ?_
          refine x_dup dX7_seen_82 rfl ?_
          obtain ⟨x31, h32, hf⟩ := bnd hf
          refine x_getI wF_X7_127 (by decide) (by decide) rfl h32 dX7_seen_83 ?_
          refine x_iconst 1 dX7_seen_86 (by decide) ?_
          refine x_iadd dX7_seen_87 ?_
          obtain ⟨m33, h34, hf⟩ := bnd hf
          refine x_putI wF_X7_127 (by decide) (by decide) rfl rfl h34 dX7_seen_88 ?_
          refine x_aload_n 0 dX7_seen_91 rfl ?_
          obtain ⟨x35, h36, hf⟩ := bnd hf
          refine x_getI wF_X7_127 (by decide) (by decide) rfl h36 dX7_seen_92 ?_
          exact y_iret rfl rfl rfl hf dX7_seen_95
        · rw [if_pos c12] at hf
          refine x_bipush (-3) dX7_seen_38 (by decide) ?_
          exact y_iret rfl rfl rfl hf dX7_seen_40
      · rw [if_pos c9] at hf
        refine x_iconst (-1) dX7_seen_27 (by decide) ?_
        exact y_iret rfl rfl rfl hf dX7_seen_28
abbrev LX7_forget (G : Gm) (p : Program) (l : Launch) (e : Env) (s : State) (m : MethodId) (args : Array Value) (below : List Frame) (meth : Method) (c : Code) (r : Int32 × Mu) (pc : Nat) (lv : List (Nat × Value)) (st : List Value) (μ : Mu) : Prop := Lt G p l e { frames := 0, cells := 0, slots := 0, locals := 40 * (0) } s m args below meth c cX7_forget 2 RX7 (some .int) "forget" (MQ below (Qm G (some (.int r.1)) r.2 0) args s 0 0 (fA G)) 0 0 pc lv st μ
def fX7_forget (a : Nat) (μ : Mu) : Option (Int32 × Mu) := grd (isO 7 a μ) ((gI 7 a 10 μ).bind fun x1 =>
    (pI 7 a 10 0 μ).bind fun m3 =>
    some (x1, m3))
set_option maxRecDepth 20000 in
theorem tX7_forget {G : Gm} {l : Launch} {r : Int32 × Mu} (a : Nat) (μ : Mu) (hf : fX7_forget a μ = some r) : Mt G l yX7_forget cX7_forget 2 (some .int) (0) 0 0 [.ref (gB G + a)] μ (some (.int r.1)) r.2 := by
  rw [fX7_forget] at hf
  have hf := grd_v hf
  refine Mt.of (by decide) (Nat.le_of_ble_eq_true rfl) (fun p e s m args below meth c => ?_)
  show LX7_forget G p l e s m args below meth c r 0 [(0, .ref (gB G + a))] [] μ
  refine x_aload_n 0 dX7_forget_0 rfl ?_
  obtain ⟨x1, h2, hf⟩ := bnd hf
  refine x_getI wF_X7_127 (by decide) (by decide) rfl h2 dX7_forget_1 ?_
  refine x_istore_n [1, 0] dX7_forget_4 (by decide) (lv' := [(0, .ref (gB G + a)), (1, .int x1)]) rfl ?_
  refine x_aload_n 0 dX7_forget_5 rfl ?_
  refine x_iconst 0 dX7_forget_6 (by decide) ?_
  obtain ⟨m3, h4, hf⟩ := bnd hf
  refine x_putI wF_X7_127 (by decide) (by decide) rfl rfl h4 dX7_forget_7 ?_
  refine x_iload_n 1 dX7_forget_10 rfl ?_
  exact y_iret rfl rfl rfl hf dX7_forget_11
abbrev LX7_isSo (G : Gm) (p : Program) (l : Launch) (e : Env) (s : State) (m : MethodId) (args : Array Value) (below : List Frame) (meth : Method) (c : Code) (r : Int32 × Mu) (pc : Nat) (lv : List (Nat × Value)) (st : List Value) (μ : Mu) : Prop := Lt G p l e { frames := 3, cells := 0, slots := 0, locals := 40 * (3) } s m args below meth c cX7_isSo 4 RX7 (some .boolean) "isSo" (MQ below (Qm G (some (.int r.1)) r.2 0) args s 0 0 (fA G)) 0 0 pc lv st μ
def fX7_isSo_125 (k30 : Nat → Int32 → Int32 → Mu → Option (Int32 × Mu)) : Nat → Nat → Int32 → Int32 → Int32 → Mu → Option (Int32 × Mu)
  | 0, _, _, _, _, _ => none
  | n + 1, v0, v1, v2, v3, μ => (if 21 ≤ v3 then
    k30 v0 v1 (v2 + 1) μ
    else
    (gR 7 v0 4 μ).bind fun x12 =>
    (gR 7 v0 17 μ).bind fun x14 =>
    (aI 8 x14 v3 μ).bind fun x16 =>
    (bI 8 x12 v3 x16 μ).bind fun m18 =>
    (fX7_isSo_125 k30 n) v0 v1 v2 (v3 + 1) m18)
set_option maxRecDepth 20000 in
theorem tX7_isSo_125 {G : Gm} {p : Program} {l : Launch} {e : Env} {s : State} {m : MethodId} {args : Array Value} {below : List Frame} {meth : Method} {c : Code} {r : Int32 × Mu} {k30 : Nat → Int32 → Int32 → Mu → Option (Int32 × Mu)} (hk30 : ∀ (v0 : Nat) (v1 : Int32) (v2 : Int32) (μ : Mu), k30 v0 v1 v2 μ = some r → LX7_isSo G p l e s m args below meth c r 30 [(0, .ref (gB G + v0)), (1, .int v1), (2, .int v2)] [] μ) : ∀ (n : Nat) (v0 : Nat) (v1 : Int32) (v2 : Int32) (v3 : Int32) (μ : Mu), fX7_isSo_125 k30 n v0 v1 v2 v3 μ = some r → LX7_isSo G p l e s m args below meth c r 125 [(0, .ref (gB G + v0)), (1, .int v1), (2, .int v2), (3, .int v3)] [] μ := by
  intro n
  induction n with
  | zero =>
    intro v0 v1 v2 v3 μ hf
    simp [fX7_isSo_125] at hf
  | succ n ih =>
    intro v0 v1 v2 v3 μ hf
    rw [fX7_isSo_125] at hf
    refine x_iload_n 3 dX7_isSo_125 rfl ?_
    refine x_bipush 21 dX7_isSo_126 (by decide) ?_
    refine x_icmp_ge 149 dX7_isSo_128 rfl (fun c11 => ?_) (fun c11 => ?_)
    · rw [if_pos c11] at hf
      refine x_iinc 2 (v2 + 1) [1, 2, 0, 3] dX7_isSo_149 rfl rfl (by decide) (lv' := [(0, .ref (gB G + v0)), (1, .int v1), (2, .int (v2 + 1)), (3, .int v3)]) rfl ?_
      refine x_goto 30 dX7_isSo_152 rfl ?_
      refine x_sub [0, 1, 2] (lv' := [(0, .ref (gB G + v0)), (1, .int v1), (2, .int (v2 + 1))]) rfl ?_
      exact hk30 v0 v1 (v2 + 1) μ hf
    · rw [if_neg c11] at hf
      refine x_aload_n 0 dX7_isSo_131 rfl ?_
      obtain ⟨x12, h13, hf⟩ := bnd hf
      refine x_getR wF_X7_19 (by decide) (by decide) rfl h13 dX7_isSo_132 ?_
      refine x_iload_n 3 dX7_isSo_135 rfl ?_
      refine x_aload_n 0 dX7_isSo_136 rfl ?_
      obtain ⟨x14, h15, hf⟩ := bnd hf
      refine x_getR wF_X7_46 (by decide) (by decide) rfl h15 dX7_isSo_137 ?_
      refine x_iload_n 3 dX7_isSo_140 rfl ?_
      obtain ⟨x16, h17, hf⟩ := bnd hf
      refine x_iald h17 dX7_isSo_141 ?_
      obtain ⟨m18, h19, hf⟩ := bnd hf
      refine x_iast h19 dX7_isSo_142 ?_
      refine x_iinc 3 (v3 + 1) [1, 2, 3, 0] dX7_isSo_143 rfl rfl (by decide) (lv' := [(0, .ref (gB G + v0)), (1, .int v1), (2, .int v2), (3, .int (v3 + 1))]) rfl ?_
      refine x_goto 125 dX7_isSo_146 rfl ?_
      exact ih v0 v1 v2 (v3 + 1) m18 hf
def fX7_isSo_114 (k30 : Nat → Int32 → Int32 → Mu → Option (Int32 × Mu)) (v0 : Nat) (v2 : Int32) (s0 : Int32) (s1 : Int32) (μ : Mu) : Option (Int32 × Mu) := (if s0 = s1 then
    fX7_isSo_125 k30 FU v0 1 v2 0 μ
    else
    fX7_isSo_125 k30 FU v0 0 v2 0 μ)
set_option maxRecDepth 20000 in
theorem tX7_isSo_114 {G : Gm} {p : Program} {l : Launch} {e : Env} {s : State} {m : MethodId} {args : Array Value} {below : List Frame} {meth : Method} {c : Code} {r : Int32 × Mu} {k30 : Nat → Int32 → Int32 → Mu → Option (Int32 × Mu)} (hk30 : ∀ (v0 : Nat) (v1 : Int32) (v2 : Int32) (μ : Mu), k30 v0 v1 v2 μ = some r → LX7_isSo G p l e s m args below meth c r 30 [(0, .ref (gB G + v0)), (1, .int v1), (2, .int v2)] [] μ) (v0 : Nat) (v2 : Int32) (s0 : Int32) (s1 : Int32) (μ : Mu) (hf : fX7_isSo_114 k30 v0 v2 s0 s1 μ = some r) : LX7_isSo G p l e s m args below meth c r 114 [(0, .ref (gB G + v0)), (2, .int v2)] [.int s1, .int s0] μ := by
  rw [fX7_isSo_114] at hf
  refine x_icmp_ne 121 dX7_isSo_114 rfl (fun c34 => ?_) (fun c34 => ?_)
  · rw [if_neg c34] at hf
    refine x_iconst 0 dX7_isSo_121 (by decide) ?_
    refine x_istore_n [1, 0, 2] dX7_isSo_122 (by decide) (lv' := [(0, .ref (gB G + v0)), (1, .int 0), (2, .int v2)]) rfl ?_
    refine x_iconst 0 dX7_isSo_123 (by decide) ?_
    refine x_istore_n [1, 2, 3, 0] dX7_isSo_124 (by decide) (lv' := [(0, .ref (gB G + v0)), (1, .int 0), (2, .int v2), (3, .int 0)]) rfl ?_
    exact tX7_isSo_125 hk30 FU v0 0 v2 0 μ hf
  · rw [if_pos c34] at hf
    refine x_iconst 1 dX7_isSo_117 (by decide) ?_
    refine x_goto 122 dX7_isSo_118 rfl ?_
    refine x_istore_n [1, 0, 2] dX7_isSo_122 (by decide) (lv' := [(0, .ref (gB G + v0)), (1, .int 1), (2, .int v2)]) rfl ?_
    refine x_iconst 0 dX7_isSo_123 (by decide) ?_
    refine x_istore_n [1, 2, 3, 0] dX7_isSo_124 (by decide) (lv' := [(0, .ref (gB G + v0)), (1, .int 1), (2, .int v2), (3, .int 0)]) rfl ?_
    exact tX7_isSo_125 hk30 FU v0 1 v2 0 μ hf
def fX7_isSo_95 (k30 : Nat → Int32 → Int32 → Mu → Option (Int32 × Mu)) (v0 : Nat) (v2 : Int32) (s0 : Int32) (μ : Mu) : Option (Int32 × Mu) := (gR 7 v0 9 μ).bind fun x29 =>
    (aI 8 x29 ((3 * v2) + 2) μ).bind fun x31 =>
    (if x31 = 1 then
    fX7_isSo_114 k30 v0 v2 s0 1 μ
    else
    fX7_isSo_114 k30 v0 v2 s0 0 μ)
set_option maxRecDepth 20000 in
theorem tX7_isSo_95 {G : Gm} {p : Program} {l : Launch} {e : Env} {s : State} {m : MethodId} {args : Array Value} {below : List Frame} {meth : Method} {c : Code} {r : Int32 × Mu} {k30 : Nat → Int32 → Int32 → Mu → Option (Int32 × Mu)} (hk30 : ∀ (v0 : Nat) (v1 : Int32) (v2 : Int32) (μ : Mu), k30 v0 v1 v2 μ = some r → LX7_isSo G p l e s m args below meth c r 30 [(0, .ref (gB G + v0)), (1, .int v1), (2, .int v2)] [] μ) (v0 : Nat) (v2 : Int32) (s0 : Int32) (μ : Mu) (hf : fX7_isSo_95 k30 v0 v2 s0 μ = some r) : LX7_isSo G p l e s m args below meth c r 95 [(0, .ref (gB G + v0)), (2, .int v2)] [.int s0] μ := by
  rw [fX7_isSo_95] at hf
  refine x_aload_n 0 dX7_isSo_95 rfl ?_
  obtain ⟨x29, h30, hf⟩ := bnd hf
  refine x_getR wF_X7_28 (by decide) (by decide) rfl h30 dX7_isSo_96 ?_
  refine x_iconst 3 dX7_isSo_99 (by decide) ?_
  refine x_iload_n 1 dX7_isSo_100 rfl ?_
  refine x_imul dX7_isSo_101 ?_
  refine x_iconst 2 dX7_isSo_102 (by decide) ?_
  refine x_iadd dX7_isSo_103 ?_
  obtain ⟨x31, h32, hf⟩ := bnd hf
  refine x_iald h32 dX7_isSo_104 ?_
  refine x_iconst 1 dX7_isSo_105 (by decide) ?_
  refine x_icmp_ne 113 dX7_isSo_106 rfl (fun c33 => ?_) (fun c33 => ?_)
  · rw [if_neg c33] at hf
    refine x_iconst 0 dX7_isSo_113 (by decide) ?_
    exact tX7_isSo_114 hk30 v0 v2 s0 0 μ hf
  · rw [if_pos c33] at hf
    refine x_iconst 1 dX7_isSo_109 (by decide) ?_
    refine x_goto 114 dX7_isSo_110 rfl ?_
    exact tX7_isSo_114 hk30 v0 v2 s0 1 μ hf
def fX7_isSo_40 (k30 : Nat → Int32 → Int32 → Mu → Option (Int32 × Mu)) : Nat → Nat → Int32 → Int32 → Int32 → Mu → Option (Int32 × Mu)
  | 0, _, _, _, _, _ => none
  | n + 1, v0, v1, v2, v3, μ => (gR 7 v0 9 μ).bind fun x5 =>
    (aI 8 x5 (3 * v2) μ).bind fun x7 =>
    (if x7 ≤ v3 then
    (if v1 = 0 then
    fX7_isSo_125 k30 FU v0 0 v2 0 μ
    else
    (gR 7 v0 4 μ).bind fun x20 =>
    (gR 7 v0 9 μ).bind fun x22 =>
    (aI 8 x22 ((3 * v2) + 1) μ).bind fun x24 =>
    (aI 8 x20 (7 + x24) μ).bind fun x26 =>
    (if x26 = (-1) then
    fX7_isSo_95 k30 v0 v2 1 μ
    else
    fX7_isSo_95 k30 v0 v2 0 μ))
    else
    (fX7_passes v0 1 μ).bind fun q35 =>
    (fX7_isSo_40 k30 n) v0 v1 v2 (v3 + 1) q35.2)
set_option maxRecDepth 20000 in
theorem tX7_isSo_40 {G : Gm} {p : Program} {l : Launch} {e : Env} {s : State} {m : MethodId} {args : Array Value} {below : List Frame} {meth : Method} {c : Code} {r : Int32 × Mu} {k30 : Nat → Int32 → Int32 → Mu → Option (Int32 × Mu)} (hk30 : ∀ (v0 : Nat) (v1 : Int32) (v2 : Int32) (μ : Mu), k30 v0 v1 v2 μ = some r → LX7_isSo G p l e s m args below meth c r 30 [(0, .ref (gB G + v0)), (1, .int v1), (2, .int v2)] [] μ) : ∀ (n : Nat) (v0 : Nat) (v1 : Int32) (v2 : Int32) (v3 : Int32) (μ : Mu), fX7_isSo_40 k30 n v0 v1 v2 v3 μ = some r → LX7_isSo G p l e s m args below meth c r 40 [(0, .ref (gB G + v0)), (1, .int v1), (2, .int v2), (3, .int v3)] [] μ := by
  intro n
  induction n with
  | zero =>
    intro v0 v1 v2 v3 μ hf
    simp [fX7_isSo_40] at hf
  | succ n ih =>
    intro v0 v1 v2 v3 μ hf
    rw [fX7_isSo_40] at hf
    refine x_iload_n 3 dX7_isSo_40 rfl ?_
    refine x_aload_n 0 dX7_isSo_41 rfl ?_
    obtain ⟨x5, h6, hf⟩ := bnd hf
    refine x_getR wF_X7_28 (by decide) (by decide) rfl h6 dX7_isSo_42 ?_
    refine x_iconst 3 dX7_isSo_45 (by decide) ?_
    refine x_iload_n 2 dX7_isSo_46 rfl ?_
    refine x_imul dX7_isSo_47 ?_
    obtain ⟨x7, h8, hf⟩ := bnd hf
    refine x_iald h8 dX7_isSo_48 ?_
    refine x_icmp_ge 64 dX7_isSo_49 rfl (fun c9 => ?_) (fun c9 => ?_)
    · rw [if_pos c9] at hf
      refine x_iload_n 1 dX7_isSo_64 rfl ?_
      refine x_if_eq 121 dX7_isSo_65 rfl (fun c10 => ?_) (fun c10 => ?_)
      · rw [if_pos c10] at hf
        refine x_iconst 0 dX7_isSo_121 (by decide) ?_
        refine x_istore_n [1, 0, 2, 3] dX7_isSo_122 (by decide) (lv' := [(0, .ref (gB G + v0)), (1, .int 0), (2, .int v2), (3, .int v3)]) rfl ?_
        refine x_iconst 0 dX7_isSo_123 (by decide) ?_
        refine x_istore_n [1, 2, 3, 0] dX7_isSo_124 (by decide) (lv' := [(0, .ref (gB G + v0)), (1, .int 0), (2, .int v2), (3, .int 0)]) rfl ?_
        exact tX7_isSo_125 hk30 FU v0 0 v2 0 μ hf
      · rw [if_neg c10] at hf
        refine x_aload_n 0 dX7_isSo_68 rfl ?_
        obtain ⟨x20, h21, hf⟩ := bnd hf
        refine x_getR wF_X7_19 (by decide) (by decide) rfl h21 dX7_isSo_69 ?_
        refine x_bipush 7 dX7_isSo_72 (by decide) ?_
        refine x_aload_n 0 dX7_isSo_74 rfl ?_
        obtain ⟨x22, h23, hf⟩ := bnd hf
        refine x_getR wF_X7_28 (by decide) (by decide) rfl h23 dX7_isSo_75 ?_
        refine x_iconst 3 dX7_isSo_78 (by decide) ?_
        refine x_iload_n 2 dX7_isSo_79 rfl ?_
        refine x_imul dX7_isSo_80 ?_
        refine x_iconst 1 dX7_isSo_81 (by decide) ?_
        refine x_iadd dX7_isSo_82 ?_
        obtain ⟨x24, h25, hf⟩ := bnd hf
        refine x_iald h25 dX7_isSo_83 ?_
        refine x_iadd dX7_isSo_84 ?_
        obtain ⟨x26, h27, hf⟩ := bnd hf
        refine x_iald h27 dX7_isSo_85 ?_
        refine x_iconst (-1) dX7_isSo_86 (by decide) ?_
        refine x_icmp_ne 94 dX7_isSo_87 rfl (fun c28 => ?_) (fun c28 => ?_)
        · rw [if_neg c28] at hf
          refine x_iconst 0 dX7_isSo_94 (by decide) ?_
          refine x_sub [0, 2] (lv' := [(0, .ref (gB G + v0)), (2, .int v2)]) rfl ?_
          exact tX7_isSo_95 hk30 v0 v2 0 μ hf
        · rw [if_pos c28] at hf
          refine x_iconst 1 dX7_isSo_90 (by decide) ?_
          refine x_goto 95 dX7_isSo_91 rfl ?_
          refine x_sub [0, 2] (lv' := [(0, .ref (gB G + v0)), (2, .int v2)]) rfl ?_
          exact tX7_isSo_95 hk30 v0 v2 1 μ hf
    · rw [if_neg c9] at hf
      refine x_aload_n 0 dX7_isSo_52 rfl ?_
      refine x_iconst 1 dX7_isSo_53 (by decide) ?_
      obtain ⟨q35, h36, hf⟩ := bnd hf
      refine x_callVi (rest := []) [.int 1] (tX7_passes v0 1 μ h36) wY_X7_passes wI_X7_passes wS_X7_passes wL_X7_142 (grd_p h36) (by decide) rfl rfl (Nat.le_of_ble_eq_true rfl) ⟨Nat.le_of_ble_eq_true rfl, Nat.le_of_ble_eq_true rfl⟩ ⟨Nat.le_refl _, Nat.le_refl _⟩ dX7_isSo_54 ?_
      refine x_pop dX7_isSo_57 rfl ?_
      refine x_iinc 3 (v3 + 1) [1, 2, 3, 0] dX7_isSo_58 rfl rfl (by decide) (lv' := [(0, .ref (gB G + v0)), (1, .int v1), (2, .int v2), (3, .int (v3 + 1))]) rfl ?_
      refine x_goto 40 dX7_isSo_61 rfl ?_
      exact ih v0 v1 v2 (v3 + 1) q35.2 hf
def fX7_isSo_30 : Nat → Nat → Int32 → Int32 → Mu → Option (Int32 × Mu)
  | 0, _, _, _, _ => none
  | n + 1, v0, v1, v2, μ => (gI 7 v0 10 μ).bind fun x2 =>
    (if x2 ≤ v2 then
    grd (v1 = 0 ∨ v1 = 1) (some (v1, μ))
    else
    fX7_isSo_40 (fX7_isSo_30 n) FU v0 v1 v2 0 μ)
set_option maxRecDepth 20000 in
theorem tX7_isSo_30 {G : Gm} {p : Program} {l : Launch} {e : Env} {s : State} {m : MethodId} {args : Array Value} {below : List Frame} {meth : Method} {c : Code} {r : Int32 × Mu} : ∀ (n : Nat) (v0 : Nat) (v1 : Int32) (v2 : Int32) (μ : Mu), fX7_isSo_30 n v0 v1 v2 μ = some r → LX7_isSo G p l e s m args below meth c r 30 [(0, .ref (gB G + v0)), (1, .int v1), (2, .int v2)] [] μ := by
  intro n
  induction n with
  | zero =>
    intro v0 v1 v2 μ hf
    simp [fX7_isSo_30] at hf
  | succ n ih =>
    intro v0 v1 v2 μ hf
    rw [fX7_isSo_30] at hf
    refine x_iload_n 2 dX7_isSo_30 rfl ?_
    refine x_aload_n 0 dX7_isSo_31 rfl ?_
    obtain ⟨x2, h3, hf⟩ := bnd hf
    refine x_getI wF_X7_127 (by decide) (by decide) rfl h3 dX7_isSo_32 ?_
    refine x_icmp_ge 155 dX7_isSo_35 rfl (fun c4 => ?_) (fun c4 => ?_)
    · rw [if_pos c4] at hf
      refine x_iload_n 1 dX7_isSo_155 rfl ?_
      exact y_zret rfl (grd_p hf) rfl rfl (grd_v hf) dX7_isSo_156
    · rw [if_neg c4] at hf
      refine x_iconst 0 dX7_isSo_38 (by decide) ?_
      refine x_istore_n [1, 2, 3, 0] dX7_isSo_39 (by decide) (lv' := [(0, .ref (gB G + v0)), (1, .int v1), (2, .int v2), (3, .int 0)]) rfl ?_
      exact tX7_isSo_40 ih FU v0 v1 v2 0 μ hf
def fX7_isSo_2 : Nat → Nat → Int32 → Mu → Option (Int32 × Mu)
  | 0, _, _, _ => none
  | n + 1, v0, v1, μ => (if 21 ≤ v1 then
    fX7_isSo_30  FU v0 1 0 μ
    else
    (gR 7 v0 17 μ).bind fun x37 =>
    (gR 7 v0 4 μ).bind fun x39 =>
    (aI 8 x39 v1 μ).bind fun x41 =>
    (bI 8 x37 v1 x41 μ).bind fun m43 =>
    (fX7_isSo_2 n) v0 (v1 + 1) m43)
set_option maxRecDepth 20000 in
theorem tX7_isSo_2 {G : Gm} {p : Program} {l : Launch} {e : Env} {s : State} {m : MethodId} {args : Array Value} {below : List Frame} {meth : Method} {c : Code} {r : Int32 × Mu} : ∀ (n : Nat) (v0 : Nat) (v1 : Int32) (μ : Mu), fX7_isSo_2 n v0 v1 μ = some r → LX7_isSo G p l e s m args below meth c r 2 [(0, .ref (gB G + v0)), (1, .int v1)] [] μ := by
  intro n
  induction n with
  | zero =>
    intro v0 v1 μ hf
    simp [fX7_isSo_2] at hf
  | succ n ih =>
    intro v0 v1 μ hf
    rw [fX7_isSo_2] at hf
    refine x_iload_n 1 dX7_isSo_2 rfl ?_
    refine x_bipush 21 dX7_isSo_3 (by decide) ?_
    refine x_icmp_ge 26 dX7_isSo_5 rfl (fun c1 => ?_) (fun c1 => ?_)
    · rw [if_pos c1] at hf
      refine x_iconst 1 dX7_isSo_26 (by decide) ?_
      refine x_istore_n [1, 0] dX7_isSo_27 (by decide) (lv' := [(0, .ref (gB G + v0)), (1, .int 1)]) rfl ?_
      refine x_iconst 0 dX7_isSo_28 (by decide) ?_
      refine x_istore_n [1, 2, 0] dX7_isSo_29 (by decide) (lv' := [(0, .ref (gB G + v0)), (1, .int 1), (2, .int 0)]) rfl ?_
      exact tX7_isSo_30  FU v0 1 0 μ hf
    · rw [if_neg c1] at hf
      refine x_aload_n 0 dX7_isSo_8 rfl ?_
      obtain ⟨x37, h38, hf⟩ := bnd hf
      refine x_getR wF_X7_46 (by decide) (by decide) rfl h38 dX7_isSo_9 ?_
      refine x_iload_n 1 dX7_isSo_12 rfl ?_
      refine x_aload_n 0 dX7_isSo_13 rfl ?_
      obtain ⟨x39, h40, hf⟩ := bnd hf
      refine x_getR wF_X7_19 (by decide) (by decide) rfl h40 dX7_isSo_14 ?_
      refine x_iload_n 1 dX7_isSo_17 rfl ?_
      obtain ⟨x41, h42, hf⟩ := bnd hf
      refine x_iald h42 dX7_isSo_18 ?_
      obtain ⟨m43, h44, hf⟩ := bnd hf
      refine x_iast h44 dX7_isSo_19 ?_
      refine x_iinc 1 (v1 + 1) [1, 0] dX7_isSo_20 rfl rfl (by decide) (lv' := [(0, .ref (gB G + v0)), (1, .int (v1 + 1))]) rfl ?_
      refine x_goto 2 dX7_isSo_23 rfl ?_
      exact ih v0 (v1 + 1) m43 hf
def fX7_isSo (a : Nat) (μ : Mu) : Option (Int32 × Mu) := grd (isO 7 a μ) (fX7_isSo_2  FU a 0 μ)
set_option maxRecDepth 20000 in
theorem tX7_isSo {G : Gm} {l : Launch} {r : Int32 × Mu} (a : Nat) (μ : Mu) (hf : fX7_isSo a μ = some r) : Mt G l yX7_isSo cX7_isSo 4 (some .boolean) (3) 0 0 [.ref (gB G + a)] μ (some (.int r.1)) r.2 := by
  rw [fX7_isSo] at hf
  have hf := grd_v hf
  refine Mt.of (by decide) (Nat.le_of_ble_eq_true rfl) (fun p e s m args below meth c => ?_)
  show LX7_isSo G p l e s m args below meth c r 0 [(0, .ref (gB G + a))] [] μ
  refine x_iconst 0 dX7_isSo_0 (by decide) ?_
  refine x_istore_n [1, 0] dX7_isSo_1 (by decide) (lv' := [(0, .ref (gB G + a)), (1, .int 0)]) rfl ?_
  exact tX7_isSo_2  FU a 0 μ hf
abbrev LX7_plots (G : Gm) (p : Program) (l : Launch) (e : Env) (s : State) (m : MethodId) (args : Array Value) (below : List Frame) (meth : Method) (c : Code) (r : Int32 × Mu) (pc : Nat) (lv : List (Nat × Value)) (st : List Value) (μ : Mu) : Prop := Lt G p l e { frames := 4, cells := 0, slots := 0, locals := 40 * (4) } s m args below meth c cX7_plots 4 RX7 (some .int) "plots" (MQ below (Qm G (some (.int r.1)) r.2 0) args s 0 0 (fA G)) 0 0 pc lv st μ
def fX7_plots_18 : Nat → Nat → Int32 → Int32 → Int32 → Mu → Option (Int32 × Mu)
  | 0, _, _, _, _, _ => none
  | n + 1, v0, v1, v2, v3, μ => (gR 7 v0 2 μ).bind fun x6 =>
    (aI 8 x6 0 μ).bind fun x8 =>
    (if x8 ≤ v3 then
    some (v2, μ)
    else
    (fX7_takes v0 v1 μ).bind fun q11 =>
    (fX7_lays v0 v1 v3 q11.2).bind fun q13 =>
    (fX7_isSo v0  q13).bind fun q15 =>
    (if q15.1 = 0 then
    (fX7_lets v0  q15.2).bind fun q18 =>
    (fX7_plots_18 n) v0 v1 (v2 ||| 0) (v3 + 1) q18
    else
    (fX7_lets v0  q15.2).bind fun q20 =>
    (fX7_plots_18 n) v0 v1 (v2 ||| (1 <<< (v3 &&& 31))) (v3 + 1) q20))
set_option maxRecDepth 20000 in
theorem tX7_plots_18 {G : Gm} {p : Program} {l : Launch} {e : Env} {s : State} {m : MethodId} {args : Array Value} {below : List Frame} {meth : Method} {c : Code} {r : Int32 × Mu} : ∀ (n : Nat) (v0 : Nat) (v1 : Int32) (v2 : Int32) (v3 : Int32) (μ : Mu), fX7_plots_18 n v0 v1 v2 v3 μ = some r → LX7_plots G p l e s m args below meth c r 18 [(0, .ref (gB G + v0)), (1, .int v1), (2, .int v2), (3, .int v3)] [] μ := by
  intro n
  induction n with
  | zero =>
    intro v0 v1 v2 v3 μ hf
    simp [fX7_plots_18] at hf
  | succ n ih =>
    intro v0 v1 v2 v3 μ hf
    rw [fX7_plots_18] at hf
    refine x_iload_n 3 dX7_plots_18 rfl ?_
    refine x_aload_n 0 dX7_plots_19 rfl ?_
    obtain ⟨x6, h7, hf⟩ := bnd hf
    refine x_getR wF_X7_13 (by decide) (by decide) rfl h7 dX7_plots_20 ?_
    refine x_iconst 0 dX7_plots_23 (by decide) ?_
    obtain ⟨x8, h9, hf⟩ := bnd hf
    refine x_iald h9 dX7_plots_24 ?_
    refine x_icmp_ge 67 dX7_plots_25 rfl (fun c10 => ?_) (fun c10 => ?_)
    · rw [if_pos c10] at hf
      refine x_iload_n 2 dX7_plots_67 rfl ?_
      exact y_iret rfl rfl rfl hf dX7_plots_68
    · rw [if_neg c10] at hf
      refine x_aload_n 0 dX7_plots_28 rfl ?_
      refine x_iload_n 1 dX7_plots_29 rfl ?_
      obtain ⟨q11, h12, hf⟩ := bnd hf
      refine x_callVi (rest := []) [.int v1] (tX7_takes v0 v1 μ h12) wY_X7_takes wI_X7_takes wS_X7_takes wL_X7_136 (grd_p h12) (by decide) rfl rfl (Nat.le_of_ble_eq_true rfl) ⟨Nat.le_of_ble_eq_true rfl, Nat.le_of_ble_eq_true rfl⟩ ⟨Nat.le_refl _, Nat.le_refl _⟩ dX7_plots_30 ?_
      refine x_pop dX7_plots_33 rfl ?_
      refine x_aload_n 0 dX7_plots_34 rfl ?_
      refine x_iload_n 1 dX7_plots_35 rfl ?_
      refine x_iload_n 3 dX7_plots_36 rfl ?_
      obtain ⟨q13, h14, hf⟩ := bnd hf
      refine x_callVv (rest := []) [.int v1, .int v3] (tX7_lays v0 v1 v3 q11.2 h14) wY_X7_lays wI_X7_lays wS_X7_lays wL_X7_95 (grd_p h14) (by decide) rfl rfl (Nat.le_of_ble_eq_true rfl) ⟨Nat.le_of_ble_eq_true rfl, Nat.le_of_ble_eq_true rfl⟩ ⟨Nat.le_refl _, Nat.le_refl _⟩ dX7_plots_37 ?_
      refine x_iload_n 2 dX7_plots_40 rfl ?_
      refine x_aload_n 0 dX7_plots_41 rfl ?_
      obtain ⟨q15, h16, hf⟩ := bnd hf
      refine x_callVi (rest := [.int v2]) [] (tX7_isSo v0  q13 h16) wY_X7_isSo wI_X7_isSo wS_X7_isSo wL_X7_180 (grd_p h16) (by decide) rfl rfl (Nat.le_of_ble_eq_true rfl) ⟨Nat.le_of_ble_eq_true rfl, Nat.le_of_ble_eq_true rfl⟩ ⟨Nat.le_refl _, Nat.le_refl _⟩ dX7_plots_42 ?_
      refine x_if_eq 54 dX7_plots_45 rfl (fun c17 => ?_) (fun c17 => ?_)
      · rw [if_pos c17] at hf
        refine x_iconst 0 dX7_plots_54 (by decide) ?_
        refine x_ior dX7_plots_55 ?_
        refine x_istore_n [1, 2, 0, 3] dX7_plots_56 (by decide) (lv' := [(0, .ref (gB G + v0)), (1, .int v1), (2, .int (v2 ||| 0)), (3, .int v3)]) rfl ?_
        refine x_aload_n 0 dX7_plots_57 rfl ?_
        obtain ⟨q18, h19, hf⟩ := bnd hf
        refine x_callVv (rest := []) [] (tX7_lets v0  q15.2 h19) wY_X7_lets wI_X7_lets wS_X7_lets wL_X7_118 (grd_p h19) (by decide) rfl rfl (Nat.le_of_ble_eq_true rfl) ⟨Nat.le_of_ble_eq_true rfl, Nat.le_of_ble_eq_true rfl⟩ ⟨Nat.le_refl _, Nat.le_refl _⟩ dX7_plots_58 ?_
        refine x_iinc 3 (v3 + 1) [1, 2, 3, 0] dX7_plots_61 rfl rfl (by decide) (lv' := [(0, .ref (gB G + v0)), (1, .int v1), (2, .int (v2 ||| 0)), (3, .int (v3 + 1))]) rfl ?_
        refine x_goto 18 dX7_plots_64 rfl ?_
        exact ih v0 v1 (v2 ||| 0) (v3 + 1) q18 hf
      · rw [if_neg c17] at hf
        refine x_iconst 1 dX7_plots_48 (by decide) ?_
        refine x_iload_n 3 dX7_plots_49 rfl ?_
        refine x_ishl dX7_plots_50 ?_
        refine x_goto 55 dX7_plots_51 rfl ?_
        refine x_ior dX7_plots_55 ?_
        refine x_istore_n [1, 2, 0, 3] dX7_plots_56 (by decide) (lv' := [(0, .ref (gB G + v0)), (1, .int v1), (2, .int (v2 ||| (1 <<< (v3 &&& 31)))), (3, .int v3)]) rfl ?_
        refine x_aload_n 0 dX7_plots_57 rfl ?_
        obtain ⟨q20, h21, hf⟩ := bnd hf
        refine x_callVv (rest := []) [] (tX7_lets v0  q15.2 h21) wY_X7_lets wI_X7_lets wS_X7_lets wL_X7_118 (grd_p h21) (by decide) rfl rfl (Nat.le_of_ble_eq_true rfl) ⟨Nat.le_of_ble_eq_true rfl, Nat.le_of_ble_eq_true rfl⟩ ⟨Nat.le_refl _, Nat.le_refl _⟩ dX7_plots_58 ?_
        refine x_iinc 3 (v3 + 1) [1, 2, 3, 0] dX7_plots_61 rfl rfl (by decide) (lv' := [(0, .ref (gB G + v0)), (1, .int v1), (2, .int (v2 ||| (1 <<< (v3 &&& 31)))), (3, .int (v3 + 1))]) rfl ?_
        refine x_goto 18 dX7_plots_64 rfl ?_
        exact ih v0 v1 (v2 ||| (1 <<< (v3 &&& 31))) (v3 + 1) q20 hf
def fX7_plots (a : Nat) (u1 : Int32) (μ : Mu) : Option (Int32 × Mu) := grd (isO 7 a μ) ((fX7_isHour a u1 μ).bind fun q1 =>
    (if q1.1 = 0 then
    some ((-1), q1.2)
    else
    (fX7_looks a  q1.2).bind fun q4 =>
    fX7_plots_18  FU a u1 0 0 q4))
set_option maxRecDepth 20000 in
theorem tX7_plots {G : Gm} {l : Launch} {r : Int32 × Mu} (a : Nat) (u1 : Int32) (μ : Mu) (hf : fX7_plots a u1 μ = some r) : Mt G l yX7_plots cX7_plots 4 (some .int) (4) 0 0 [.ref (gB G + a), .int u1] μ (some (.int r.1)) r.2 := by
  rw [fX7_plots] at hf
  have hf := grd_v hf
  refine Mt.of (by decide) (Nat.le_of_ble_eq_true rfl) (fun p e s m args below meth c => ?_)
  show LX7_plots G p l e s m args below meth c r 0 [(0, .ref (gB G + a)), (1, .int u1)] [] μ
  refine x_aload_n 0 dX7_plots_0 rfl ?_
  refine x_iload_n 1 dX7_plots_1 rfl ?_
  obtain ⟨q1, h2, hf⟩ := bnd hf
  refine x_callVi (rest := []) [.int u1] (tX7_isHour a u1 μ h2) wY_X7_isHour wI_X7_isHour wS_X7_isHour wL_X7_133 (grd_p h2) (by decide) rfl rfl (Nat.le_of_ble_eq_true rfl) ⟨Nat.le_of_ble_eq_true rfl, Nat.le_of_ble_eq_true rfl⟩ ⟨Nat.le_refl _, Nat.le_refl _⟩ dX7_plots_2 ?_
  refine x_if_ne 10 dX7_plots_5 rfl (fun c3 => ?_) (fun c3 => ?_)
  · rw [if_neg c3] at hf
    refine x_iconst 0 dX7_plots_10 (by decide) ?_
    refine x_istore_n [1, 2, 0] dX7_plots_11 (by decide) (lv' := [(0, .ref (gB G + a)), (1, .int u1), (2, .int 0)]) rfl ?_
    refine x_aload_n 0 dX7_plots_12 rfl ?_
    obtain ⟨q4, h5, hf⟩ := bnd hf
    refine x_callVv (rest := []) [] (tX7_looks a  q1.2 h5) wY_X7_looks wI_X7_looks wS_X7_looks wL_X7_153 (grd_p h5) (by decide) rfl rfl (Nat.le_of_ble_eq_true rfl) ⟨Nat.le_of_ble_eq_true rfl, Nat.le_of_ble_eq_true rfl⟩ ⟨Nat.le_refl _, Nat.le_refl _⟩ dX7_plots_13 ?_
    refine x_iconst 0 dX7_plots_16 (by decide) ?_
    refine x_istore_n [1, 2, 3, 0] dX7_plots_17 (by decide) (lv' := [(0, .ref (gB G + a)), (1, .int u1), (2, .int 0), (3, .int 0)]) rfl ?_
    exact tX7_plots_18  FU a u1 0 0 q4 hf
  · rw [if_pos c3] at hf
    refine x_iconst (-1) dX7_plots_8 (by decide) ?_
    exact y_iret rfl rfl rfl hf dX7_plots_9
abbrev LX7_kinds (G : Gm) (p : Program) (l : Launch) (e : Env) (s : State) (m : MethodId) (args : Array Value) (below : List Frame) (meth : Method) (c : Code) (r : Int32 × Mu) (pc : Nat) (lv : List (Nat × Value)) (st : List Value) (μ : Mu) : Prop := Lt G p l e { frames := 4, cells := 0, slots := 0, locals := 40 * (4) } s m args below meth c cX7_kinds 5 RX7 (some .int) "kinds" (MQ below (Qm G (some (.int r.1)) r.2 0) args s 0 0 (fA G)) 0 0 pc lv st μ
def fX7_kinds_24 : Nat → Nat → Int32 → Int32 → Int32 → Int32 → Mu → Option (Int32 × Mu)
  | 0, _, _, _, _, _, _ => none
  | n + 1, v0, v1, v2, v3, v4, μ => (if 3 < v4 then
    (gR 7 v0 2 μ).bind fun x9 =>
    (bI 8 x9 (2 + v1) v2 μ).bind fun m11 =>
    some (v3, m11)
    else
    (gR 7 v0 2 μ).bind fun x13 =>
    (bI 8 x13 (2 + v1) v4 μ).bind fun m15 =>
    (fX7_isSo v0  m15).bind fun q17 =>
    (if q17.1 = 0 then
    (fX7_kinds_24 n) v0 v1 v2 (v3 ||| 0) (v4 + 1) q17.2
    else
    (fX7_kinds_24 n) v0 v1 v2 (v3 ||| (1 <<< (v4 &&& 31))) (v4 + 1) q17.2))
set_option maxRecDepth 20000 in
theorem tX7_kinds_24 {G : Gm} {p : Program} {l : Launch} {e : Env} {s : State} {m : MethodId} {args : Array Value} {below : List Frame} {meth : Method} {c : Code} {r : Int32 × Mu} : ∀ (n : Nat) (v0 : Nat) (v1 : Int32) (v2 : Int32) (v3 : Int32) (v4 : Int32) (μ : Mu), fX7_kinds_24 n v0 v1 v2 v3 v4 μ = some r → LX7_kinds G p l e s m args below meth c r 24 [(0, .ref (gB G + v0)), (1, .int v1), (2, .int v2), (3, .int v3), (4, .int v4)] [] μ := by
  intro n
  induction n with
  | zero =>
    intro v0 v1 v2 v3 v4 μ hf
    simp [fX7_kinds_24] at hf
  | succ n ih =>
    intro v0 v1 v2 v3 v4 μ hf
    rw [fX7_kinds_24] at hf
    refine x_iload 4 dX7_kinds_24 rfl ?_
    refine x_iconst 3 dX7_kinds_26 (by decide) ?_
    refine x_icmp_gt 64 dX7_kinds_27 rfl (fun c8 => ?_) (fun c8 => ?_)
    · rw [if_pos c8] at hf
      refine x_aload_n 0 dX7_kinds_64 rfl ?_
      obtain ⟨x9, h10, hf⟩ := bnd hf
      refine x_getR wF_X7_13 (by decide) (by decide) rfl h10 dX7_kinds_65 ?_
      refine x_iconst 2 dX7_kinds_68 (by decide) ?_
      refine x_iload_n 1 dX7_kinds_69 rfl ?_
      refine x_iadd dX7_kinds_70 ?_
      refine x_iload_n 2 dX7_kinds_71 rfl ?_
      obtain ⟨m11, h12, hf⟩ := bnd hf
      refine x_iast h12 dX7_kinds_72 ?_
      refine x_iload_n 3 dX7_kinds_73 rfl ?_
      exact y_iret rfl rfl rfl hf dX7_kinds_74
    · rw [if_neg c8] at hf
      refine x_aload_n 0 dX7_kinds_30 rfl ?_
      obtain ⟨x13, h14, hf⟩ := bnd hf
      refine x_getR wF_X7_13 (by decide) (by decide) rfl h14 dX7_kinds_31 ?_
      refine x_iconst 2 dX7_kinds_34 (by decide) ?_
      refine x_iload_n 1 dX7_kinds_35 rfl ?_
      refine x_iadd dX7_kinds_36 ?_
      refine x_iload 4 dX7_kinds_37 rfl ?_
      obtain ⟨m15, h16, hf⟩ := bnd hf
      refine x_iast h16 dX7_kinds_39 ?_
      refine x_iload_n 3 dX7_kinds_40 rfl ?_
      refine x_aload_n 0 dX7_kinds_41 rfl ?_
      obtain ⟨q17, h18, hf⟩ := bnd hf
      refine x_callVi (rest := [.int v3]) [] (tX7_isSo v0  m15 h18) wY_X7_isSo wI_X7_isSo wS_X7_isSo wL_X7_180 (grd_p h18) (by decide) rfl rfl (Nat.le_of_ble_eq_true rfl) ⟨Nat.le_of_ble_eq_true rfl, Nat.le_of_ble_eq_true rfl⟩ ⟨Nat.le_refl _, Nat.le_refl _⟩ dX7_kinds_42 ?_
      refine x_if_eq 55 dX7_kinds_45 rfl (fun c19 => ?_) (fun c19 => ?_)
      · rw [if_pos c19] at hf
        refine x_iconst 0 dX7_kinds_55 (by decide) ?_
        refine x_ior dX7_kinds_56 ?_
        refine x_istore_n [1, 2, 3, 0, 4] dX7_kinds_57 (by decide) (lv' := [(0, .ref (gB G + v0)), (1, .int v1), (2, .int v2), (3, .int (v3 ||| 0)), (4, .int v4)]) rfl ?_
        refine x_iinc 4 (v4 + 1) [1, 2, 3, 4, 0] dX7_kinds_58 rfl rfl (by decide) (lv' := [(0, .ref (gB G + v0)), (1, .int v1), (2, .int v2), (3, .int (v3 ||| 0)), (4, .int (v4 + 1))]) rfl ?_
        refine x_goto 24 dX7_kinds_61 rfl ?_
        exact ih v0 v1 v2 (v3 ||| 0) (v4 + 1) q17.2 hf
      · rw [if_neg c19] at hf
        refine x_iconst 1 dX7_kinds_48 (by decide) ?_
        refine x_iload 4 dX7_kinds_49 rfl ?_
        refine x_ishl dX7_kinds_51 ?_
        refine x_goto 56 dX7_kinds_52 rfl ?_
        refine x_ior dX7_kinds_56 ?_
        refine x_istore_n [1, 2, 3, 0, 4] dX7_kinds_57 (by decide) (lv' := [(0, .ref (gB G + v0)), (1, .int v1), (2, .int v2), (3, .int (v3 ||| (1 <<< (v4 &&& 31)))), (4, .int v4)]) rfl ?_
        refine x_iinc 4 (v4 + 1) [1, 2, 3, 4, 0] dX7_kinds_58 rfl rfl (by decide) (lv' := [(0, .ref (gB G + v0)), (1, .int v1), (2, .int v2), (3, .int (v3 ||| (1 <<< (v4 &&& 31)))), (4, .int (v4 + 1))]) rfl ?_
        refine x_goto 24 dX7_kinds_61 rfl ?_
        exact ih v0 v1 v2 (v3 ||| (1 <<< (v4 &&& 31))) (v4 + 1) q17.2 hf
def fX7_kinds (a : Nat) (u1 : Int32) (μ : Mu) : Option (Int32 × Mu) := grd (isO 7 a μ) ((fX7_isHour a u1 μ).bind fun q1 =>
    (if q1.1 = 0 then
    some ((-1), q1.2)
    else
    (gR 7 a 2 q1.2).bind fun x4 =>
    (aI 8 x4 (2 + u1) q1.2).bind fun x6 =>
    fX7_kinds_24  FU a u1 x6 0 0 q1.2))
set_option maxRecDepth 20000 in
theorem tX7_kinds {G : Gm} {l : Launch} {r : Int32 × Mu} (a : Nat) (u1 : Int32) (μ : Mu) (hf : fX7_kinds a u1 μ = some r) : Mt G l yX7_kinds cX7_kinds 5 (some .int) (4) 0 0 [.ref (gB G + a), .int u1] μ (some (.int r.1)) r.2 := by
  rw [fX7_kinds] at hf
  have hf := grd_v hf
  refine Mt.of (by decide) (Nat.le_of_ble_eq_true rfl) (fun p e s m args below meth c => ?_)
  show LX7_kinds G p l e s m args below meth c r 0 [(0, .ref (gB G + a)), (1, .int u1)] [] μ
  refine x_aload_n 0 dX7_kinds_0 rfl ?_
  refine x_iload_n 1 dX7_kinds_1 rfl ?_
  obtain ⟨q1, h2, hf⟩ := bnd hf
  refine x_callVi (rest := []) [.int u1] (tX7_isHour a u1 μ h2) wY_X7_isHour wI_X7_isHour wS_X7_isHour wL_X7_133 (grd_p h2) (by decide) rfl rfl (Nat.le_of_ble_eq_true rfl) ⟨Nat.le_of_ble_eq_true rfl, Nat.le_of_ble_eq_true rfl⟩ ⟨Nat.le_refl _, Nat.le_refl _⟩ dX7_kinds_2 ?_
  refine x_if_ne 10 dX7_kinds_5 rfl (fun c3 => ?_) (fun c3 => ?_)
  · rw [if_neg c3] at hf
    refine x_aload_n 0 dX7_kinds_10 rfl ?_
    obtain ⟨x4, h5, hf⟩ := bnd hf
    refine x_getR wF_X7_13 (by decide) (by decide) rfl h5 dX7_kinds_11 ?_
    refine x_iconst 2 dX7_kinds_14 (by decide) ?_
    refine x_iload_n 1 dX7_kinds_15 rfl ?_
    refine x_iadd dX7_kinds_16 ?_
    obtain ⟨x6, h7, hf⟩ := bnd hf
    refine x_iald h7 dX7_kinds_17 ?_
    refine x_istore_n [1, 2, 0] dX7_kinds_18 (by decide) (lv' := [(0, .ref (gB G + a)), (1, .int u1), (2, .int x6)]) rfl ?_
    refine x_iconst 0 dX7_kinds_19 (by decide) ?_
    refine x_istore_n [1, 2, 3, 0] dX7_kinds_20 (by decide) (lv' := [(0, .ref (gB G + a)), (1, .int u1), (2, .int x6), (3, .int 0)]) rfl ?_
    refine x_iconst 0 dX7_kinds_21 (by decide) ?_
    refine x_istore [1, 2, 3, 4, 0] dX7_kinds_22 (by decide) (lv' := [(0, .ref (gB G + a)), (1, .int u1), (2, .int x6), (3, .int 0), (4, .int 0)]) rfl ?_
    exact tX7_kinds_24  FU a u1 x6 0 0 q1.2 hf
  · rw [if_pos c3] at hf
    refine x_iconst (-1) dX7_kinds_8 (by decide) ?_
    exact y_iret rfl rfl rfl hf dX7_kinds_9
abbrev LX7_likely (G : Gm) (p : Program) (l : Launch) (e : Env) (s : State) (m : MethodId) (args : Array Value) (below : List Frame) (meth : Method) (c : Code) (r : Int32 × Mu) (pc : Nat) (lv : List (Nat × Value)) (st : List Value) (μ : Mu) : Prop := Lt G p l e { frames := 3, cells := 0, slots := 0, locals := 40 * (3) } s m args below meth c cX7_likely 11 RX7 (some .int) "likely" (MQ below (Qm G (some (.int r.1)) r.2 0) args s 0 0 (fA G)) 0 0 pc lv st μ
def fX7_likely_202 : Nat → Int32 → Int32 → Int32 → Int32 → Int32 → Mu → Option (Int32 × Mu)
  | 0, _, _, _, _, _, _ => none
  | n + 1, v4, v5, v6, v7, v8, μ => (if v8 ≤ 0 then
    (if v4 = 0 then
    (dvd v5 v7).bind fun x26 =>
    some (x26, μ)
    else
    (dvd v6 v7).bind fun x24 =>
    some (x24, μ))
    else
    (rmd v7 v8).bind fun x28 =>
    (fX7_likely_202 n) v4 v5 v6 v8 x28 μ)
set_option maxRecDepth 20000 in
theorem tX7_likely_202 {G : Gm} {p : Program} {l : Launch} {e : Env} {s : State} {m : MethodId} {args : Array Value} {below : List Frame} {meth : Method} {c : Code} {r : Int32 × Mu} : ∀ (n : Nat) (v4 : Int32) (v5 : Int32) (v6 : Int32) (v7 : Int32) (v8 : Int32) (μ : Mu), fX7_likely_202 n v4 v5 v6 v7 v8 μ = some r → LX7_likely G p l e s m args below meth c r 202 [(4, .int v4), (5, .int v5), (6, .int v6), (7, .int v7), (8, .int v8)] [] μ := by
  intro n
  induction n with
  | zero =>
    intro v4 v5 v6 v7 v8 μ hf
    simp [fX7_likely_202] at hf
  | succ n ih =>
    intro v4 v5 v6 v7 v8 μ hf
    rw [fX7_likely_202] at hf
    refine x_iload 4 dX7_likely_202 rfl ?_
    refine x_if_le 225 dX7_likely_204 rfl (fun c22 => ?_) (fun c22 => ?_)
    · rw [if_pos c22] at hf
      refine x_iload 0 dX7_likely_225 rfl ?_
      refine x_if_ne 238 dX7_likely_227 rfl (fun c23 => ?_) (fun c23 => ?_)
      · rw [if_neg c23] at hf
        refine x_iload 2 dX7_likely_238 rfl ?_
        refine x_iload 3 dX7_likely_240 rfl ?_
        obtain ⟨x24, h25, hf⟩ := bnd hf
        refine x_idiv h25 dX7_likely_242 ?_
        exact y_iret rfl rfl rfl hf dX7_likely_243
      · rw [if_pos c23] at hf
        refine x_iload 1 dX7_likely_230 rfl ?_
        refine x_iload 3 dX7_likely_232 rfl ?_
        obtain ⟨x26, h27, hf⟩ := bnd hf
        refine x_idiv h27 dX7_likely_234 ?_
        refine x_goto 243 dX7_likely_235 rfl ?_
        exact y_iret rfl rfl rfl hf dX7_likely_243
    · rw [if_neg c22] at hf
      refine x_iload 3 dX7_likely_207 rfl ?_
      refine x_iload 4 dX7_likely_209 rfl ?_
      obtain ⟨x28, h29, hf⟩ := bnd hf
      refine x_irem h29 dX7_likely_211 ?_
      refine x_istore [1, 2, 3, 4, 5, 0] dX7_likely_212 (by decide) (lv' := [(4, .int v4), (5, .int v5), (6, .int v6), (7, .int v7), (8, .int v8), (9, .int x28)]) rfl ?_
      refine x_iload 4 dX7_likely_214 rfl ?_
      refine x_istore [1, 2, 3, 0, 4, 5] dX7_likely_216 (by decide) (lv' := [(4, .int v4), (5, .int v5), (6, .int v6), (7, .int v8), (8, .int v8), (9, .int x28)]) rfl ?_
      refine x_iload 5 dX7_likely_218 rfl ?_
      refine x_istore [1, 2, 3, 4, 0, 5] dX7_likely_220 (by decide) (lv' := [(4, .int v4), (5, .int v5), (6, .int v6), (7, .int v8), (8, .int x28), (9, .int x28)]) rfl ?_
      refine x_goto 202 dX7_likely_222 rfl ?_
      refine x_sub [0, 1, 2, 3, 4] (lv' := [(4, .int v4), (5, .int v5), (6, .int v6), (7, .int v8), (8, .int x28)]) rfl ?_
      exact ih v4 v5 v6 v8 x28 μ hf
def fX7_likely_144 (k91 : Nat → Int32 → Int32 → Int32 → Int32 → Int32 → Int32 → Int32 → Mu → Option (Int32 × Mu)) (k105 : Nat → Int32 → Int32 → Int32 → Int32 → Int32 → Int32 → Int32 → Int32 → Int32 → Mu → Option (Int32 × Mu)) (v0 : Nat) (v1 : Int32) (v2 : Int32) (v3 : Int32) (v4 : Int32) (v5 : Int32) (v6 : Int32) (v7 : Int32) (v9 : Int32) (v10 : Int32) (s0 : Int32) (s1 : Int32) (μ : Mu) : Option (Int32 × Mu) := (fX7_passes v0 v10 μ).bind fun q42 =>
    k105 v0 v1 v2 v3 v4 v5 v6 v7 (s0 * s1) (v9 + 1) q42.2
set_option maxRecDepth 20000 in
theorem tX7_likely_144 {G : Gm} {p : Program} {l : Launch} {e : Env} {s : State} {m : MethodId} {args : Array Value} {below : List Frame} {meth : Method} {c : Code} {r : Int32 × Mu} {k91 : Nat → Int32 → Int32 → Int32 → Int32 → Int32 → Int32 → Int32 → Mu → Option (Int32 × Mu)} {k105 : Nat → Int32 → Int32 → Int32 → Int32 → Int32 → Int32 → Int32 → Int32 → Int32 → Mu → Option (Int32 × Mu)} (hk91 : ∀ (v0 : Nat) (v1 : Int32) (v2 : Int32) (v3 : Int32) (v4 : Int32) (v5 : Int32) (v6 : Int32) (v7 : Int32) (μ : Mu), k91 v0 v1 v2 v3 v4 v5 v6 v7 μ = some r → LX7_likely G p l e s m args below meth c r 91 [(0, .ref (gB G + v0)), (1, .int v1), (2, .int v2), (3, .int v3), (4, .int v4), (5, .int v5), (6, .int v6), (7, .int v7)] [] μ) (hk105 : ∀ (v0 : Nat) (v1 : Int32) (v2 : Int32) (v3 : Int32) (v4 : Int32) (v5 : Int32) (v6 : Int32) (v7 : Int32) (v8 : Int32) (v9 : Int32) (μ : Mu), k105 v0 v1 v2 v3 v4 v5 v6 v7 v8 v9 μ = some r → LX7_likely G p l e s m args below meth c r 105 [(0, .ref (gB G + v0)), (1, .int v1), (2, .int v2), (3, .int v3), (4, .int v4), (5, .int v5), (6, .int v6), (7, .int v7), (8, .int v8), (9, .int v9)] [] μ) (v0 : Nat) (v1 : Int32) (v2 : Int32) (v3 : Int32) (v4 : Int32) (v5 : Int32) (v6 : Int32) (v7 : Int32) (v9 : Int32) (v10 : Int32) (s0 : Int32) (s1 : Int32) (μ : Mu) (hf : fX7_likely_144 k91 k105 v0 v1 v2 v3 v4 v5 v6 v7 v9 v10 s0 s1 μ = some r) : LX7_likely G p l e s m args below meth c r 144 [(0, .ref (gB G + v0)), (1, .int v1), (2, .int v2), (3, .int v3), (4, .int v4), (5, .int v5), (6, .int v6), (7, .int v7), (9, .int v9), (10, .int v10)] [.int s1, .int s0] μ := by
  rw [fX7_likely_144] at hf
  refine x_imul dX7_likely_144 ?_
  refine x_istore [1, 2, 3, 4, 5, 6, 7, 8, 0, 9, 10] dX7_likely_145 (by decide) (lv' := [(0, .ref (gB G + v0)), (1, .int v1), (2, .int v2), (3, .int v3), (4, .int v4), (5, .int v5), (6, .int v6), (7, .int v7), (8, .int (s0 * s1)), (9, .int v9), (10, .int v10)]) rfl ?_
  refine x_aload_n 0 dX7_likely_147 rfl ?_
  refine x_iload 10 dX7_likely_148 rfl ?_
  obtain ⟨q42, h43, hf⟩ := bnd hf
  refine x_callVi (rest := []) [.int v10] (tX7_passes v0 v10 μ h43) wY_X7_passes wI_X7_passes wS_X7_passes wL_X7_142 (grd_p h43) (by decide) rfl rfl (Nat.le_of_ble_eq_true rfl) ⟨Nat.le_of_ble_eq_true rfl, Nat.le_of_ble_eq_true rfl⟩ ⟨Nat.le_refl _, Nat.le_refl _⟩ dX7_likely_150 ?_
  refine x_pop dX7_likely_153 rfl ?_
  refine x_iinc 9 (v9 + 1) [1, 2, 3, 4, 5, 6, 7, 8, 9, 0, 10] dX7_likely_154 rfl rfl (by decide) (lv' := [(0, .ref (gB G + v0)), (1, .int v1), (2, .int v2), (3, .int v3), (4, .int v4), (5, .int v5), (6, .int v6), (7, .int v7), (8, .int (s0 * s1)), (9, .int (v9 + 1)), (10, .int v10)]) rfl ?_
  refine x_goto 105 dX7_likely_157 rfl ?_
  refine x_sub [0, 1, 2, 3, 4, 5, 6, 7, 8, 9] (lv' := [(0, .ref (gB G + v0)), (1, .int v1), (2, .int v2), (3, .int v3), (4, .int v4), (5, .int v5), (6, .int v6), (7, .int v7), (8, .int (s0 * s1)), (9, .int (v9 + 1))]) rfl ?_
  exact hk105 v0 v1 v2 v3 v4 v5 v6 v7 (s0 * s1) (v9 + 1) q42.2 hf
def fX7_likely_127 (k91 : Nat → Int32 → Int32 → Int32 → Int32 → Int32 → Int32 → Int32 → Mu → Option (Int32 × Mu)) (k105 : Nat → Int32 → Int32 → Int32 → Int32 → Int32 → Int32 → Int32 → Int32 → Int32 → Mu → Option (Int32 × Mu)) (v0 : Nat) (v1 : Int32) (v2 : Int32) (v3 : Int32) (v4 : Int32) (v5 : Int32) (v6 : Int32) (v7 : Int32) (v8 : Int32) (v9 : Int32) (s0 : Int32) (μ : Mu) : Option (Int32 × Mu) := (if s0 = 0 then
    fX7_likely_144 k91 k105 v0 v1 v2 v3 v4 v5 v6 v7 v9 s0 v8 (10 - v3) μ
    else
    fX7_likely_144 k91 k105 v0 v1 v2 v3 v4 v5 v6 v7 v9 s0 v8 v3 μ)
set_option maxRecDepth 20000 in
theorem tX7_likely_127 {G : Gm} {p : Program} {l : Launch} {e : Env} {s : State} {m : MethodId} {args : Array Value} {below : List Frame} {meth : Method} {c : Code} {r : Int32 × Mu} {k91 : Nat → Int32 → Int32 → Int32 → Int32 → Int32 → Int32 → Int32 → Mu → Option (Int32 × Mu)} {k105 : Nat → Int32 → Int32 → Int32 → Int32 → Int32 → Int32 → Int32 → Int32 → Int32 → Mu → Option (Int32 × Mu)} (hk91 : ∀ (v0 : Nat) (v1 : Int32) (v2 : Int32) (v3 : Int32) (v4 : Int32) (v5 : Int32) (v6 : Int32) (v7 : Int32) (μ : Mu), k91 v0 v1 v2 v3 v4 v5 v6 v7 μ = some r → LX7_likely G p l e s m args below meth c r 91 [(0, .ref (gB G + v0)), (1, .int v1), (2, .int v2), (3, .int v3), (4, .int v4), (5, .int v5), (6, .int v6), (7, .int v7)] [] μ) (hk105 : ∀ (v0 : Nat) (v1 : Int32) (v2 : Int32) (v3 : Int32) (v4 : Int32) (v5 : Int32) (v6 : Int32) (v7 : Int32) (v8 : Int32) (v9 : Int32) (μ : Mu), k105 v0 v1 v2 v3 v4 v5 v6 v7 v8 v9 μ = some r → LX7_likely G p l e s m args below meth c r 105 [(0, .ref (gB G + v0)), (1, .int v1), (2, .int v2), (3, .int v3), (4, .int v4), (5, .int v5), (6, .int v6), (7, .int v7), (8, .int v8), (9, .int v9)] [] μ) (v0 : Nat) (v1 : Int32) (v2 : Int32) (v3 : Int32) (v4 : Int32) (v5 : Int32) (v6 : Int32) (v7 : Int32) (v8 : Int32) (v9 : Int32) (s0 : Int32) (μ : Mu) (hf : fX7_likely_127 k91 k105 v0 v1 v2 v3 v4 v5 v6 v7 v8 v9 s0 μ = some r) : LX7_likely G p l e s m args below meth c r 127 [(0, .ref (gB G + v0)), (1, .int v1), (2, .int v2), (3, .int v3), (4, .int v4), (5, .int v5), (6, .int v6), (7, .int v7), (8, .int v8), (9, .int v9)] [.int s0] μ := by
  rw [fX7_likely_127] at hf
  refine x_istore [1, 2, 3, 4, 5, 6, 7, 8, 9, 10, 0] dX7_likely_127 (by decide) (lv' := [(0, .ref (gB G + v0)), (1, .int v1), (2, .int v2), (3, .int v3), (4, .int v4), (5, .int v5), (6, .int v6), (7, .int v7), (8, .int v8), (9, .int v9), (10, .int s0)]) rfl ?_
  refine x_iload 8 dX7_likely_129 rfl ?_
  refine x_iload 10 dX7_likely_131 rfl ?_
  refine x_if_eq 140 dX7_likely_133 rfl (fun c41 => ?_) (fun c41 => ?_)
  · rw [if_pos c41] at hf
    refine x_bipush 10 dX7_likely_140 (by decide) ?_
    refine x_iload_n 3 dX7_likely_142 rfl ?_
    refine x_isub dX7_likely_143 ?_
    refine x_sub [0, 1, 2, 3, 4, 5, 6, 7, 9, 10] (lv' := [(0, .ref (gB G + v0)), (1, .int v1), (2, .int v2), (3, .int v3), (4, .int v4), (5, .int v5), (6, .int v6), (7, .int v7), (9, .int v9), (10, .int s0)]) rfl ?_
    exact tX7_likely_144 hk91 hk105 v0 v1 v2 v3 v4 v5 v6 v7 v9 s0 v8 (10 - v3) μ hf
  · rw [if_neg c41] at hf
    refine x_iload_n 3 dX7_likely_136 rfl ?_
    refine x_goto 144 dX7_likely_137 rfl ?_
    refine x_sub [0, 1, 2, 3, 4, 5, 6, 7, 9, 10] (lv' := [(0, .ref (gB G + v0)), (1, .int v1), (2, .int v2), (3, .int v3), (4, .int v4), (5, .int v5), (6, .int v6), (7, .int v7), (9, .int v9), (10, .int s0)]) rfl ?_
    exact tX7_likely_144 hk91 hk105 v0 v1 v2 v3 v4 v5 v6 v7 v9 s0 v8 v3 μ hf
def fX7_likely_105 (k91 : Nat → Int32 → Int32 → Int32 → Int32 → Int32 → Int32 → Int32 → Mu → Option (Int32 × Mu)) : Nat → Nat → Int32 → Int32 → Int32 → Int32 → Int32 → Int32 → Int32 → Int32 → Int32 → Mu → Option (Int32 × Mu)
  | 0, _, _, _, _, _, _, _, _, _, _, _ => none
  | n + 1, v0, v1, v2, v3, v4, v5, v6, v7, v8, v9, μ => (if v2 ≤ v9 then
    (gR 7 v0 4 μ).bind fun x31 =>
    (aI 8 x31 (7 + v1) μ).bind fun x33 =>
    (if x33 = (-1) then
    (fX7_lets v0  μ).bind fun q38 =>
    k91 v0 v1 v2 v3 v4 (v5 + 0) v6 (v7 + 1) q38
    else
    (fX7_lets v0  μ).bind fun q36 =>
    k91 v0 v1 v2 v3 v4 (v5 + v8) v6 (v7 + 1) q36)
    else
    (if ((v7 >>> (v9 &&& 31)) &&& 1) = 1 then
    fX7_likely_127 k91 (fX7_likely_105 k91 n) v0 v1 v2 v3 v4 v5 v6 v7 v8 v9 1 μ
    else
    fX7_likely_127 k91 (fX7_likely_105 k91 n) v0 v1 v2 v3 v4 v5 v6 v7 v8 v9 0 μ))
set_option maxRecDepth 20000 in
theorem tX7_likely_105 {G : Gm} {p : Program} {l : Launch} {e : Env} {s : State} {m : MethodId} {args : Array Value} {below : List Frame} {meth : Method} {c : Code} {r : Int32 × Mu} {k91 : Nat → Int32 → Int32 → Int32 → Int32 → Int32 → Int32 → Int32 → Mu → Option (Int32 × Mu)} (hk91 : ∀ (v0 : Nat) (v1 : Int32) (v2 : Int32) (v3 : Int32) (v4 : Int32) (v5 : Int32) (v6 : Int32) (v7 : Int32) (μ : Mu), k91 v0 v1 v2 v3 v4 v5 v6 v7 μ = some r → LX7_likely G p l e s m args below meth c r 91 [(0, .ref (gB G + v0)), (1, .int v1), (2, .int v2), (3, .int v3), (4, .int v4), (5, .int v5), (6, .int v6), (7, .int v7)] [] μ) : ∀ (n : Nat) (v0 : Nat) (v1 : Int32) (v2 : Int32) (v3 : Int32) (v4 : Int32) (v5 : Int32) (v6 : Int32) (v7 : Int32) (v8 : Int32) (v9 : Int32) (μ : Mu), fX7_likely_105 k91 n v0 v1 v2 v3 v4 v5 v6 v7 v8 v9 μ = some r → LX7_likely G p l e s m args below meth c r 105 [(0, .ref (gB G + v0)), (1, .int v1), (2, .int v2), (3, .int v3), (4, .int v4), (5, .int v5), (6, .int v6), (7, .int v7), (8, .int v8), (9, .int v9)] [] μ := by
  intro n
  induction n with
  | zero =>
    intro v0 v1 v2 v3 v4 v5 v6 v7 v8 v9 μ hf
    simp [fX7_likely_105] at hf
  | succ n ih =>
    intro v0 v1 v2 v3 v4 v5 v6 v7 v8 v9 μ hf
    rw [fX7_likely_105] at hf
    refine x_iload 9 dX7_likely_105 rfl ?_
    refine x_iload_n 2 dX7_likely_107 rfl ?_
    refine x_icmp_ge 160 dX7_likely_108 rfl (fun c30 => ?_) (fun c30 => ?_)
    · rw [if_pos c30] at hf
      refine x_iload 5 dX7_likely_160 rfl ?_
      refine x_aload_n 0 dX7_likely_162 rfl ?_
      obtain ⟨x31, h32, hf⟩ := bnd hf
      refine x_getR wF_X7_19 (by decide) (by decide) rfl h32 dX7_likely_163 ?_
      refine x_bipush 7 dX7_likely_166 (by decide) ?_
      refine x_iload_n 1 dX7_likely_168 rfl ?_
      refine x_iadd dX7_likely_169 ?_
      obtain ⟨x33, h34, hf⟩ := bnd hf
      refine x_iald h34 dX7_likely_170 ?_
      refine x_iconst (-1) dX7_likely_171 (by decide) ?_
      refine x_icmp_ne 179 dX7_likely_172 rfl (fun c35 => ?_) (fun c35 => ?_)
      · rw [if_neg c35] at hf
        refine x_iload 8 dX7_likely_179 rfl ?_
        refine x_iadd dX7_likely_181 ?_
        refine x_istore [1, 2, 3, 4, 5, 0, 6, 7, 8, 9] dX7_likely_182 (by decide) (lv' := [(0, .ref (gB G + v0)), (1, .int v1), (2, .int v2), (3, .int v3), (4, .int v4), (5, .int (v5 + v8)), (6, .int v6), (7, .int v7), (8, .int v8), (9, .int v9)]) rfl ?_
        refine x_aload_n 0 dX7_likely_184 rfl ?_
        obtain ⟨q36, h37, hf⟩ := bnd hf
        refine x_callVv (rest := []) [] (tX7_lets v0  μ h37) wY_X7_lets wI_X7_lets wS_X7_lets wL_X7_118 (grd_p h37) (by decide) rfl rfl (Nat.le_of_ble_eq_true rfl) ⟨Nat.le_of_ble_eq_true rfl, Nat.le_of_ble_eq_true rfl⟩ ⟨Nat.le_refl _, Nat.le_refl _⟩ dX7_likely_185 ?_
        refine x_iinc 7 (v7 + 1) [1, 2, 3, 4, 5, 6, 7, 0, 8, 9] dX7_likely_188 rfl rfl (by decide) (lv' := [(0, .ref (gB G + v0)), (1, .int v1), (2, .int v2), (3, .int v3), (4, .int v4), (5, .int (v5 + v8)), (6, .int v6), (7, .int (v7 + 1)), (8, .int v8), (9, .int v9)]) rfl ?_
        refine x_goto 91 dX7_likely_191 rfl ?_
        refine x_sub [0, 1, 2, 3, 4, 5, 6, 7] (lv' := [(0, .ref (gB G + v0)), (1, .int v1), (2, .int v2), (3, .int v3), (4, .int v4), (5, .int (v5 + v8)), (6, .int v6), (7, .int (v7 + 1))]) rfl ?_
        exact hk91 v0 v1 v2 v3 v4 (v5 + v8) v6 (v7 + 1) q36 hf
      · rw [if_pos c35] at hf
        refine x_iconst 0 dX7_likely_175 (by decide) ?_
        refine x_goto 181 dX7_likely_176 rfl ?_
        refine x_iadd dX7_likely_181 ?_
        refine x_istore [1, 2, 3, 4, 5, 0, 6, 7, 8, 9] dX7_likely_182 (by decide) (lv' := [(0, .ref (gB G + v0)), (1, .int v1), (2, .int v2), (3, .int v3), (4, .int v4), (5, .int (v5 + 0)), (6, .int v6), (7, .int v7), (8, .int v8), (9, .int v9)]) rfl ?_
        refine x_aload_n 0 dX7_likely_184 rfl ?_
        obtain ⟨q38, h39, hf⟩ := bnd hf
        refine x_callVv (rest := []) [] (tX7_lets v0  μ h39) wY_X7_lets wI_X7_lets wS_X7_lets wL_X7_118 (grd_p h39) (by decide) rfl rfl (Nat.le_of_ble_eq_true rfl) ⟨Nat.le_of_ble_eq_true rfl, Nat.le_of_ble_eq_true rfl⟩ ⟨Nat.le_refl _, Nat.le_refl _⟩ dX7_likely_185 ?_
        refine x_iinc 7 (v7 + 1) [1, 2, 3, 4, 5, 6, 7, 0, 8, 9] dX7_likely_188 rfl rfl (by decide) (lv' := [(0, .ref (gB G + v0)), (1, .int v1), (2, .int v2), (3, .int v3), (4, .int v4), (5, .int (v5 + 0)), (6, .int v6), (7, .int (v7 + 1)), (8, .int v8), (9, .int v9)]) rfl ?_
        refine x_goto 91 dX7_likely_191 rfl ?_
        refine x_sub [0, 1, 2, 3, 4, 5, 6, 7] (lv' := [(0, .ref (gB G + v0)), (1, .int v1), (2, .int v2), (3, .int v3), (4, .int v4), (5, .int (v5 + 0)), (6, .int v6), (7, .int (v7 + 1))]) rfl ?_
        exact hk91 v0 v1 v2 v3 v4 (v5 + 0) v6 (v7 + 1) q38 hf
    · rw [if_neg c30] at hf
      refine x_iload 7 dX7_likely_111 rfl ?_
      refine x_iload 9 dX7_likely_113 rfl ?_
      refine x_ishr dX7_likely_115 ?_
      refine x_iconst 1 dX7_likely_116 (by decide) ?_
      refine x_iand dX7_likely_117 ?_
      refine x_iconst 1 dX7_likely_118 (by decide) ?_
      refine x_icmp_ne 126 dX7_likely_119 rfl (fun c40 => ?_) (fun c40 => ?_)
      · rw [if_neg c40] at hf
        refine x_iconst 0 dX7_likely_126 (by decide) ?_
        exact tX7_likely_127 hk91 ih v0 v1 v2 v3 v4 v5 v6 v7 v8 v9 0 μ hf
      · rw [if_pos c40] at hf
        refine x_iconst 1 dX7_likely_122 (by decide) ?_
        refine x_goto 127 dX7_likely_123 rfl ?_
        exact tX7_likely_127 hk91 ih v0 v1 v2 v3 v4 v5 v6 v7 v8 v9 1 μ hf
def fX7_likely_91 : Nat → Nat → Int32 → Int32 → Int32 → Int32 → Int32 → Int32 → Int32 → Mu → Option (Int32 × Mu)
  | 0, _, _, _, _, _, _, _, _, _ => none
  | n + 1, v0, v1, v2, v3, v4, v5, v6, v7, μ => (if (1 <<< (v2 &&& 31)) ≤ v7 then
    fX7_likely_202  FU v4 v5 v6 v5 v6 μ
    else
    fX7_likely_105 (fX7_likely_91 n) FU v0 v1 v2 v3 v4 v5 v6 v7 1 0 μ)
set_option maxRecDepth 20000 in
theorem tX7_likely_91 {G : Gm} {p : Program} {l : Launch} {e : Env} {s : State} {m : MethodId} {args : Array Value} {below : List Frame} {meth : Method} {c : Code} {r : Int32 × Mu} : ∀ (n : Nat) (v0 : Nat) (v1 : Int32) (v2 : Int32) (v3 : Int32) (v4 : Int32) (v5 : Int32) (v6 : Int32) (v7 : Int32) (μ : Mu), fX7_likely_91 n v0 v1 v2 v3 v4 v5 v6 v7 μ = some r → LX7_likely G p l e s m args below meth c r 91 [(0, .ref (gB G + v0)), (1, .int v1), (2, .int v2), (3, .int v3), (4, .int v4), (5, .int v5), (6, .int v6), (7, .int v7)] [] μ := by
  intro n
  induction n with
  | zero =>
    intro v0 v1 v2 v3 v4 v5 v6 v7 μ hf
    simp [fX7_likely_91] at hf
  | succ n ih =>
    intro v0 v1 v2 v3 v4 v5 v6 v7 μ hf
    rw [fX7_likely_91] at hf
    refine x_iload 7 dX7_likely_91 rfl ?_
    refine x_iconst 1 dX7_likely_93 (by decide) ?_
    refine x_iload_n 2 dX7_likely_94 rfl ?_
    refine x_ishl dX7_likely_95 ?_
    refine x_icmp_ge 194 dX7_likely_96 rfl (fun c21 => ?_) (fun c21 => ?_)
    · rw [if_pos c21] at hf
      refine x_iload 5 dX7_likely_194 rfl ?_
      refine x_istore [1, 2, 3, 4, 5, 6, 7, 0] dX7_likely_196 (by decide) (lv' := [(0, .ref (gB G + v0)), (1, .int v1), (2, .int v2), (3, .int v3), (4, .int v4), (5, .int v5), (6, .int v6), (7, .int v5)]) rfl ?_
      refine x_iload 6 dX7_likely_198 rfl ?_
      refine x_istore [1, 2, 3, 4, 5, 6, 7, 8, 0] dX7_likely_200 (by decide) (lv' := [(0, .ref (gB G + v0)), (1, .int v1), (2, .int v2), (3, .int v3), (4, .int v4), (5, .int v5), (6, .int v6), (7, .int v5), (8, .int v6)]) rfl ?_
      refine x_sub [4, 5, 6, 7, 8] (lv' := [(4, .int v4), (5, .int v5), (6, .int v6), (7, .int v5), (8, .int v6)]) rfl ?_
      exact tX7_likely_202  FU v4 v5 v6 v5 v6 μ hf
    · rw [if_neg c21] at hf
      refine x_iconst 1 dX7_likely_99 (by decide) ?_
      refine x_istore [1, 2, 3, 4, 5, 6, 7, 8, 0] dX7_likely_100 (by decide) (lv' := [(0, .ref (gB G + v0)), (1, .int v1), (2, .int v2), (3, .int v3), (4, .int v4), (5, .int v5), (6, .int v6), (7, .int v7), (8, .int 1)]) rfl ?_
      refine x_iconst 0 dX7_likely_102 (by decide) ?_
      refine x_istore [1, 2, 3, 4, 5, 6, 7, 8, 9, 0] dX7_likely_103 (by decide) (lv' := [(0, .ref (gB G + v0)), (1, .int v1), (2, .int v2), (3, .int v3), (4, .int v4), (5, .int v5), (6, .int v6), (7, .int v7), (8, .int 1), (9, .int 0)]) rfl ?_
      exact tX7_likely_105 ih FU v0 v1 v2 v3 v4 v5 v6 v7 1 0 μ hf
def fX7_likely_69 : Nat → Nat → Int32 → Int32 → Int32 → Int32 → Int32 → Int32 → Int32 → Mu → Option (Int32 × Mu)
  | 0, _, _, _, _, _, _, _, _, _ => none
  | n + 1, v0, v1, v2, v3, v4, v5, v6, v7, μ => (if v2 ≤ v7 then
    fX7_likely_91  FU v0 v1 v2 v3 v4 v5 v6 0 μ
    else
    (fX7_likely_69 n) v0 v1 v2 v3 v4 v5 (v6 * 10) (v7 + 1) μ)
set_option maxRecDepth 20000 in
theorem tX7_likely_69 {G : Gm} {p : Program} {l : Launch} {e : Env} {s : State} {m : MethodId} {args : Array Value} {below : List Frame} {meth : Method} {c : Code} {r : Int32 × Mu} : ∀ (n : Nat) (v0 : Nat) (v1 : Int32) (v2 : Int32) (v3 : Int32) (v4 : Int32) (v5 : Int32) (v6 : Int32) (v7 : Int32) (μ : Mu), fX7_likely_69 n v0 v1 v2 v3 v4 v5 v6 v7 μ = some r → LX7_likely G p l e s m args below meth c r 69 [(0, .ref (gB G + v0)), (1, .int v1), (2, .int v2), (3, .int v3), (4, .int v4), (5, .int v5), (6, .int v6), (7, .int v7)] [] μ := by
  intro n
  induction n with
  | zero =>
    intro v0 v1 v2 v3 v4 v5 v6 v7 μ hf
    simp [fX7_likely_69] at hf
  | succ n ih =>
    intro v0 v1 v2 v3 v4 v5 v6 v7 μ hf
    rw [fX7_likely_69] at hf
    refine x_iload 7 dX7_likely_69 rfl ?_
    refine x_iload_n 2 dX7_likely_71 rfl ?_
    refine x_icmp_ge 88 dX7_likely_72 rfl (fun c20 => ?_) (fun c20 => ?_)
    · rw [if_pos c20] at hf
      refine x_iconst 0 dX7_likely_88 (by decide) ?_
      refine x_istore [1, 2, 3, 4, 5, 6, 7, 0] dX7_likely_89 (by decide) (lv' := [(0, .ref (gB G + v0)), (1, .int v1), (2, .int v2), (3, .int v3), (4, .int v4), (5, .int v5), (6, .int v6), (7, .int 0)]) rfl ?_
      exact tX7_likely_91  FU v0 v1 v2 v3 v4 v5 v6 0 μ hf
    · rw [if_neg c20] at hf
      refine x_iload 6 dX7_likely_75 rfl ?_
      refine x_bipush 10 dX7_likely_77 (by decide) ?_
      refine x_imul dX7_likely_79 ?_
      refine x_istore [1, 2, 3, 4, 5, 6, 0, 7] dX7_likely_80 (by decide) (lv' := [(0, .ref (gB G + v0)), (1, .int v1), (2, .int v2), (3, .int v3), (4, .int v4), (5, .int v5), (6, .int (v6 * 10)), (7, .int v7)]) rfl ?_
      refine x_iinc 7 (v7 + 1) [1, 2, 3, 4, 5, 6, 7, 0] dX7_likely_82 rfl rfl (by decide) (lv' := [(0, .ref (gB G + v0)), (1, .int v1), (2, .int v2), (3, .int v3), (4, .int v4), (5, .int v5), (6, .int (v6 * 10)), (7, .int (v7 + 1))]) rfl ?_
      refine x_goto 69 dX7_likely_85 rfl ?_
      exact ih v0 v1 v2 v3 v4 v5 (v6 * 10) (v7 + 1) μ hf
def fX7_likely (a : Nat) (u1 : Int32) (u2 : Int32) (u3 : Int32) (u4 : Int32) (μ : Mu) : Option (Int32 × Mu) := grd (isO 7 a μ) ((fX7_isHour a u1 μ).bind fun q1 =>
    (if q1.1 = 0 then
    some ((-1), q1.2)
    else
    (fX7_in u2 0 8 q1.2).bind fun q4 =>
    (if q4.1 = 0 then
    some ((-1), q4.2)
    else
    (fX7_in u3 0 10 q4.2).bind fun q7 =>
    (if q7.1 = 0 then
    some ((-1), q7.2)
    else
    (fX7_in u4 0 1 q7.2).bind fun q10 =>
    (if q10.1 = 0 then
    some ((-1), q10.2)
    else
    (gR 7 a 4 q10.2).bind fun x13 =>
    (aI 8 x13 (7 + u1) q10.2).bind fun x15 =>
    (if x15 = (-1) then
    some ((-2), q10.2)
    else
    (fX7_looks a  q10.2).bind fun q18 =>
    fX7_likely_69  FU a u1 u2 u3 u4 0 1 0 q18))))))
set_option maxRecDepth 20000 in
theorem tX7_likely {G : Gm} {l : Launch} {r : Int32 × Mu} (a : Nat) (u1 : Int32) (u2 : Int32) (u3 : Int32) (u4 : Int32) (μ : Mu) (hf : fX7_likely a u1 u2 u3 u4 μ = some r) : Mt G l yX7_likely cX7_likely 11 (some .int) (3) 0 0 [.ref (gB G + a), .int u1, .int u2, .int u3, .int u4] μ (some (.int r.1)) r.2 := by
  rw [fX7_likely] at hf
  have hf := grd_v hf
  refine Mt.of (by decide) (Nat.le_of_ble_eq_true rfl) (fun p e s m args below meth c => ?_)
  show LX7_likely G p l e s m args below meth c r 0 [(0, .ref (gB G + a)), (1, .int u1), (2, .int u2), (3, .int u3), (4, .int u4)] [] μ
  refine x_aload_n 0 dX7_likely_0 rfl ?_
  refine x_iload_n 1 dX7_likely_1 rfl ?_
  obtain ⟨q1, h2, hf⟩ := bnd hf
  refine x_callVi (rest := []) [.int u1] (tX7_isHour a u1 μ h2) wY_X7_isHour wI_X7_isHour wS_X7_isHour wL_X7_133 (grd_p h2) (by decide) rfl rfl (Nat.le_of_ble_eq_true rfl) ⟨Nat.le_of_ble_eq_true rfl, Nat.le_of_ble_eq_true rfl⟩ ⟨Nat.le_refl _, Nat.le_refl _⟩ dX7_likely_2 ?_
  refine x_if_eq 38 dX7_likely_5 rfl (fun c3 => ?_) (fun c3 => ?_)
  · rw [if_pos c3] at hf
    refine x_iconst (-1) dX7_likely_38 (by decide) ?_
    exact y_iret rfl rfl rfl hf dX7_likely_39
  · rw [if_neg c3] at hf
    refine x_iload_n 2 dX7_likely_8 rfl ?_
    refine x_iconst 0 dX7_likely_9 (by decide) ?_
    refine x_bipush 8 dX7_likely_10 (by decide) ?_
    obtain ⟨q4, h5, hf⟩ := bnd hf
    refine x_callSi (rest := []) [.int u2, .int 0, .int 8] (tX7_in u2 0 8 q1.2 h5) wY_X7_in wT_X7_in wL_X7_56 rfl (Nat.le_of_ble_eq_true rfl) ⟨Nat.le_of_ble_eq_true rfl, Nat.le_of_ble_eq_true rfl⟩ ⟨Nat.le_refl _, Nat.le_refl _⟩ dX7_likely_12 ?_
    refine x_if_eq 38 dX7_likely_15 rfl (fun c6 => ?_) (fun c6 => ?_)
    · rw [if_pos c6] at hf
      refine x_iconst (-1) dX7_likely_38 (by decide) ?_
      exact y_iret rfl rfl rfl hf dX7_likely_39
    · rw [if_neg c6] at hf
      refine x_iload_n 3 dX7_likely_18 rfl ?_
      refine x_iconst 0 dX7_likely_19 (by decide) ?_
      refine x_bipush 10 dX7_likely_20 (by decide) ?_
      obtain ⟨q7, h8, hf⟩ := bnd hf
      refine x_callSi (rest := []) [.int u3, .int 0, .int 10] (tX7_in u3 0 10 q4.2 h8) wY_X7_in wT_X7_in wL_X7_56 rfl (Nat.le_of_ble_eq_true rfl) ⟨Nat.le_of_ble_eq_true rfl, Nat.le_of_ble_eq_true rfl⟩ ⟨Nat.le_refl _, Nat.le_refl _⟩ dX7_likely_22 ?_
      refine x_if_eq 38 dX7_likely_25 rfl (fun c9 => ?_) (fun c9 => ?_)
      · rw [if_pos c9] at hf
        refine x_iconst (-1) dX7_likely_38 (by decide) ?_
        exact y_iret rfl rfl rfl hf dX7_likely_39
      · rw [if_neg c9] at hf
        refine x_iload 4 dX7_likely_28 rfl ?_
        refine x_iconst 0 dX7_likely_30 (by decide) ?_
        refine x_iconst 1 dX7_likely_31 (by decide) ?_
        obtain ⟨q10, h11, hf⟩ := bnd hf
        refine x_callSi (rest := []) [.int u4, .int 0, .int 1] (tX7_in u4 0 1 q7.2 h11) wY_X7_in wT_X7_in wL_X7_56 rfl (Nat.le_of_ble_eq_true rfl) ⟨Nat.le_of_ble_eq_true rfl, Nat.le_of_ble_eq_true rfl⟩ ⟨Nat.le_refl _, Nat.le_refl _⟩ dX7_likely_32 ?_
        refine x_if_ne 40 dX7_likely_35 rfl (fun c12 => ?_) (fun c12 => ?_)
        · rw [if_neg c12] at hf
          refine x_aload_n 0 dX7_likely_40 rfl ?_
          obtain ⟨x13, h14, hf⟩ := bnd hf
          refine x_getR wF_X7_19 (by decide) (by decide) rfl h14 dX7_likely_41 ?_
          refine x_bipush 7 dX7_likely_44 (by decide) ?_
          refine x_iload_n 1 dX7_likely_46 rfl ?_
          refine x_iadd dX7_likely_47 ?_
          obtain ⟨x15, h16, hf⟩ := bnd hf
          refine x_iald h16 dX7_likely_48 ?_
          refine x_iconst (-1) dX7_likely_49 (by decide) ?_
          refine x_icmp_ne 56 dX7_likely_50 rfl (fun c17 => ?_) (fun c17 => ?_)
          · rw [if_neg c17] at hf
            refine x_aload_n 0 dX7_likely_56 rfl ?_
            obtain ⟨q18, h19, hf⟩ := bnd hf
            refine x_callVv (rest := []) [] (tX7_looks a  q10.2 h19) wY_X7_looks wI_X7_looks wS_X7_looks wL_X7_153 (grd_p h19) (by decide) rfl rfl (Nat.le_of_ble_eq_true rfl) ⟨Nat.le_of_ble_eq_true rfl, Nat.le_of_ble_eq_true rfl⟩ ⟨Nat.le_refl _, Nat.le_refl _⟩ dX7_likely_57 ?_
            refine x_iconst 0 dX7_likely_60 (by decide) ?_
            refine x_istore [1, 2, 3, 4, 5, 0] dX7_likely_61 (by decide) (lv' := [(0, .ref (gB G + a)), (1, .int u1), (2, .int u2), (3, .int u3), (4, .int u4), (5, .int 0)]) rfl ?_
            refine x_iconst 1 dX7_likely_63 (by decide) ?_
            refine x_istore [1, 2, 3, 4, 5, 6, 0] dX7_likely_64 (by decide) (lv' := [(0, .ref (gB G + a)), (1, .int u1), (2, .int u2), (3, .int u3), (4, .int u4), (5, .int 0), (6, .int 1)]) rfl ?_
            refine x_iconst 0 dX7_likely_66 (by decide) ?_
            refine x_istore [1, 2, 3, 4, 5, 6, 7, 0] dX7_likely_67 (by decide) (lv' := [(0, .ref (gB G + a)), (1, .int u1), (2, .int u2), (3, .int u3), (4, .int u4), (5, .int 0), (6, .int 1), (7, .int 0)]) rfl ?_
            exact tX7_likely_69  FU a u1 u2 u3 u4 0 1 0 q18 hf
          · rw [if_pos c17] at hf
            refine x_bipush (-2) dX7_likely_53 (by decide) ?_
            exact y_iret rfl rfl rfl hf dX7_likely_55
        · rw [if_pos c12] at hf
          refine x_iconst (-1) dX7_likely_38 (by decide) ?_
          exact y_iret rfl rfl rfl hf dX7_likely_39
abbrev LX7_turn (G : Gm) (p : Program) (l : Launch) (e : Env) (s : State) (m : MethodId) (args : Array Value) (below : List Frame) (meth : Method) (c : Code) (r : Mu) (pc : Nat) (lv : List (Nat × Value)) (st : List Value) (μ : Mu) : Prop := Lt G p l e { frames := 4, cells := 0, slots := 0, locals := 40 * (4) } s m args below meth c cX7_turn 4 RX7 none "turn" (MQ below (Qm G none r 0) args s 0 0 (fA G)) 0 0 pc lv st μ
def fX7_turn (a : Nat) (u1 : Int32) (μ : Mu) : Option (Mu) := grd (isO 7 a μ) ((gR 7 a 2 μ).bind fun x1 =>
    (aI 8 x1 1 μ).bind fun x3 =>
    (rmd u1 x3).bind fun x5 =>
    (dvd u1 8).bind fun x7 =>
    (gR 7 a 2 μ).bind fun x9 =>
    (aI 8 x9 0 μ).bind fun x11 =>
    (rmd x7 x11).bind fun x13 =>
    (gR 7 a 4 μ).bind fun x15 =>
    (aI 8 x15 (7 + x5) μ).bind fun x17 =>
    (if x17 = (-1) then
    (fX7_mayPut a x5 x13 μ).bind fun q33 =>
    (if q33.1 = 0 then
    some q33.2
    else
    (fX7_isFrost a  q33.2).bind fun q36 =>
    (if q36.1 = 0 then
    (fX7_lays a x5 x13 q36.2).bind fun q39 =>
    some q39
    else
    some q36.2))
    else
    (dvd u1 64).bind fun x20 =>
    (rmd x20 4).bind fun x22 =>
    (if x22 = 0 then
    (gR 7 a 4 μ).bind fun x25 =>
    (aI 8 x25 1 μ).bind fun x27 =>
    (fX7_takes a x5 μ).bind fun q29 =>
    (bI 8 x25 1 (x27 + q29.1) q29.2).bind fun m31 =>
    some m31
    else
    some μ)))
set_option maxRecDepth 20000 in
theorem tX7_turn {G : Gm} {l : Launch} {r : Mu} (a : Nat) (u1 : Int32) (μ : Mu) (hf : fX7_turn a u1 μ = some r) : Mt G l yX7_turn cX7_turn 4 none (4) 0 0 [.ref (gB G + a), .int u1] μ none r := by
  rw [fX7_turn] at hf
  have hf := grd_v hf
  refine Mt.of (by decide) (Nat.le_of_ble_eq_true rfl) (fun p e s m args below meth c => ?_)
  show LX7_turn G p l e s m args below meth c r 0 [(0, .ref (gB G + a)), (1, .int u1)] [] μ
  refine x_iload_n 1 dX7_turn_0 rfl ?_
  refine x_aload_n 0 dX7_turn_1 rfl ?_
  obtain ⟨x1, h2, hf⟩ := bnd hf
  refine x_getR wF_X7_13 (by decide) (by decide) rfl h2 dX7_turn_2 ?_
  refine x_iconst 1 dX7_turn_5 (by decide) ?_
  obtain ⟨x3, h4, hf⟩ := bnd hf
  refine x_iald h4 dX7_turn_6 ?_
  obtain ⟨x5, h6, hf⟩ := bnd hf
  refine x_irem h6 dX7_turn_7 ?_
  refine x_istore_n [1, 2, 0] dX7_turn_8 (by decide) (lv' := [(0, .ref (gB G + a)), (1, .int u1), (2, .int x5)]) rfl ?_
  refine x_iload_n 1 dX7_turn_9 rfl ?_
  refine x_bipush 8 dX7_turn_10 (by decide) ?_
  obtain ⟨x7, h8, hf⟩ := bnd hf
  refine x_idiv h8 dX7_turn_12 ?_
  refine x_aload_n 0 dX7_turn_13 rfl ?_
  obtain ⟨x9, h10, hf⟩ := bnd hf
  refine x_getR wF_X7_13 (by decide) (by decide) rfl h10 dX7_turn_14 ?_
  refine x_iconst 0 dX7_turn_17 (by decide) ?_
  obtain ⟨x11, h12, hf⟩ := bnd hf
  refine x_iald h12 dX7_turn_18 ?_
  obtain ⟨x13, h14, hf⟩ := bnd hf
  refine x_irem h14 dX7_turn_19 ?_
  refine x_istore_n [1, 2, 3, 0] dX7_turn_20 (by decide) (lv' := [(0, .ref (gB G + a)), (1, .int u1), (2, .int x5), (3, .int x13)]) rfl ?_
  refine x_aload_n 0 dX7_turn_21 rfl ?_
  obtain ⟨x15, h16, hf⟩ := bnd hf
  refine x_getR wF_X7_19 (by decide) (by decide) rfl h16 dX7_turn_22 ?_
  refine x_bipush 7 dX7_turn_25 (by decide) ?_
  refine x_iload_n 2 dX7_turn_27 rfl ?_
  refine x_iadd dX7_turn_28 ?_
  obtain ⟨x17, h18, hf⟩ := bnd hf
  refine x_iald h18 dX7_turn_29 ?_
  refine x_iconst (-1) dX7_turn_30 (by decide) ?_
  refine x_icmp_ne 59 dX7_turn_31 rfl (fun c19 => ?_) (fun c19 => ?_)
  · rw [if_neg c19] at hf
    refine x_iload_n 1 dX7_turn_59 rfl ?_
    refine x_bipush 64 dX7_turn_60 (by decide) ?_
    obtain ⟨x20, h21, hf⟩ := bnd hf
    refine x_idiv h21 dX7_turn_62 ?_
    refine x_iconst 4 dX7_turn_63 (by decide) ?_
    obtain ⟨x22, h23, hf⟩ := bnd hf
    refine x_irem h23 dX7_turn_64 ?_
    refine x_if_ne 82 dX7_turn_65 rfl (fun c24 => ?_) (fun c24 => ?_)
    · rw [if_neg c24] at hf
      exact y_vret rfl rfl rfl hf dX7_turn_82
    · rw [if_pos c24] at hf
      refine x_aload_n 0 dX7_turn_68 rfl ?_
      obtain ⟨x25, h26, hf⟩ := bnd hf
      refine x_getR wF_X7_19 (by decide) (by decide) rfl h26 dX7_turn_69 ?_
      refine x_iconst 1 dX7_turn_72 (by decide) ?_
      refine x_dup2 dX7_turn_73 rfl rfl ?_
      obtain ⟨x27, h28, hf⟩ := bnd hf
      refine x_iald h28 dX7_turn_74 ?_
      refine x_aload_n 0 dX7_turn_75 rfl ?_
      refine x_iload_n 2 dX7_turn_76 rfl ?_
      obtain ⟨q29, h30, hf⟩ := bnd hf
      refine x_callVi (rest := [.int x27, .int 1, .ref (gB G + x25)]) [.int x5] (tX7_takes a x5 μ h30) wY_X7_takes wI_X7_takes wS_X7_takes wL_X7_136 (grd_p h30) (by decide) rfl rfl (Nat.le_of_ble_eq_true rfl) ⟨Nat.le_of_ble_eq_true rfl, Nat.le_of_ble_eq_true rfl⟩ ⟨Nat.le_refl _, Nat.le_refl _⟩ dX7_turn_77 ?_
      refine x_iadd dX7_turn_80 ?_
      obtain ⟨m31, h32, hf⟩ := bnd hf
      refine x_iast h32 dX7_turn_81 ?_
      exact y_vret rfl rfl rfl hf dX7_turn_82
  · rw [if_pos c19] at hf
    refine x_aload_n 0 dX7_turn_34 rfl ?_
    refine x_iload_n 2 dX7_turn_35 rfl ?_
    refine x_iload_n 3 dX7_turn_36 rfl ?_
    obtain ⟨q33, h34, hf⟩ := bnd hf
    refine x_callVi (rest := []) [.int x5, .int x13] (tX7_mayPut a x5 x13 μ h34) wY_X7_mayPut wI_X7_mayPut wS_X7_mayPut wL_X7_145 (grd_p h34) (by decide) rfl rfl (Nat.le_of_ble_eq_true rfl) ⟨Nat.le_of_ble_eq_true rfl, Nat.le_of_ble_eq_true rfl⟩ ⟨Nat.le_refl _, Nat.le_refl _⟩ dX7_turn_37 ?_
    refine x_if_eq 82 dX7_turn_40 rfl (fun c35 => ?_) (fun c35 => ?_)
    · rw [if_pos c35] at hf
      exact y_vret rfl rfl rfl hf dX7_turn_82
    · rw [if_neg c35] at hf
      refine x_aload_n 0 dX7_turn_43 rfl ?_
      obtain ⟨q36, h37, hf⟩ := bnd hf
      refine x_callVi (rest := []) [] (tX7_isFrost a  q33.2 h37) wY_X7_isFrost wI_X7_isFrost wS_X7_isFrost wL_X7_149 (grd_p h37) (by decide) rfl rfl (Nat.le_of_ble_eq_true rfl) ⟨Nat.le_of_ble_eq_true rfl, Nat.le_of_ble_eq_true rfl⟩ ⟨Nat.le_refl _, Nat.le_refl _⟩ dX7_turn_44 ?_
      refine x_if_ne 82 dX7_turn_47 rfl (fun c38 => ?_) (fun c38 => ?_)
      · rw [if_neg c38] at hf
        exact y_vret rfl rfl rfl hf dX7_turn_82
      · rw [if_pos c38] at hf
        refine x_aload_n 0 dX7_turn_50 rfl ?_
        refine x_iload_n 2 dX7_turn_51 rfl ?_
        refine x_iload_n 3 dX7_turn_52 rfl ?_
        obtain ⟨q39, h40, hf⟩ := bnd hf
        refine x_callVv (rest := []) [.int x5, .int x13] (tX7_lays a x5 x13 q36.2 h40) wY_X7_lays wI_X7_lays wS_X7_lays wL_X7_95 (grd_p h40) (by decide) rfl rfl (Nat.le_of_ble_eq_true rfl) ⟨Nat.le_of_ble_eq_true rfl, Nat.le_of_ble_eq_true rfl⟩ ⟨Nat.le_refl _, Nat.le_refl _⟩ dX7_turn_53 ?_
        refine x_goto 82 dX7_turn_56 rfl ?_
        exact y_vret rfl rfl rfl hf dX7_turn_82
abbrev LX7_decade (G : Gm) (p : Program) (l : Launch) (e : Env) (s : State) (m : MethodId) (args : Array Value) (below : List Frame) (meth : Method) (c : Code) (r : Int32 × Mu) (pc : Nat) (lv : List (Nat × Value)) (st : List Value) (μ : Mu) : Prop := Lt G p l e { frames := 5, cells := 0, slots := 0, locals := 40 * (5) } s m args below meth c cX7_decade 7 RX7 (some .int) "decade" (MQ below (Qm G (some (.int r.1)) r.2 0) args s 0 0 (fA G)) 0 0 pc lv st μ
def fX7_decade_39 : Nat → Nat → Int32 → Int32 → Int32 → Int32 → Mu → Option (Int32 × Mu)
  | 0, _, _, _, _, _, _ => none
  | n + 1, v0, v1, v2, v3, v4, μ => (if v2 ≤ v4 then
    (gR 7 v0 4 μ).bind fun x13 =>
    (aI 8 x13 1 μ).bind fun x15 =>
    (fX7_lyingAll v0  μ).bind fun q17 =>
    (fX7_lets v0  q17.2).bind fun q19 =>
    (if v3 = 0 then
    (fX7_ones q17.1 q19).bind fun q29 =>
    some (q29.1, q29.2)
    else
    (if v3 = 1 then
    (fX7_worthOf v0 q17.1 q19).bind fun q27 =>
    some (q27.1, q27.2)
    else
    (gR 7 v0 4 q19).bind fun x23 =>
    (aI 8 x23 1 q19).bind fun x25 =>
    some (x15 - x25, q19)))
    else
    (rmdL ((((7919 * v1.toInt64) + (6151 * v4.toInt64)) + 1) * (((7919 * v1.toInt64) + (6151 * v4.toInt64)) + 1)) 65521).bind fun x31 =>
    (dvdL x31 2).bind fun x33 =>
    (fX7_turn v0 x33.toInt32 μ).bind fun q35 =>
    (fX7_passes v0 1 q35).bind fun q37 =>
    (fX7_decade_39 n) v0 v1 v2 v3 (v4 + 1) q37.2)
set_option maxRecDepth 20000 in
theorem tX7_decade_39 {G : Gm} {p : Program} {l : Launch} {e : Env} {s : State} {m : MethodId} {args : Array Value} {below : List Frame} {meth : Method} {c : Code} {r : Int32 × Mu} : ∀ (n : Nat) (v0 : Nat) (v1 : Int32) (v2 : Int32) (v3 : Int32) (v4 : Int32) (μ : Mu), fX7_decade_39 n v0 v1 v2 v3 v4 μ = some r → LX7_decade G p l e s m args below meth c r 39 [(0, .ref (gB G + v0)), (1, .int v1), (2, .int v2), (3, .int v3), (4, .int v4)] [] μ := by
  intro n
  induction n with
  | zero =>
    intro v0 v1 v2 v3 v4 μ hf
    simp [fX7_decade_39] at hf
  | succ n ih =>
    intro v0 v1 v2 v3 v4 μ hf
    rw [fX7_decade_39] at hf
    refine x_iload 4 dX7_decade_39 rfl ?_
    refine x_iload_n 2 dX7_decade_41 rfl ?_
    refine x_icmp_ge 93 dX7_decade_42 rfl (fun c12 => ?_) (fun c12 => ?_)
    · rw [if_pos c12] at hf
      refine x_aload_n 0 dX7_decade_93 rfl ?_
      obtain ⟨x13, h14, hf⟩ := bnd hf
      refine x_getR wF_X7_19 (by decide) (by decide) rfl h14 dX7_decade_94 ?_
      refine x_iconst 1 dX7_decade_97 (by decide) ?_
      obtain ⟨x15, h16, hf⟩ := bnd hf
      refine x_iald h16 dX7_decade_98 ?_
      refine x_istore [1, 2, 3, 4, 0] dX7_decade_99 (by decide) (lv' := [(0, .ref (gB G + v0)), (1, .int v1), (2, .int v2), (3, .int v3), (4, .int x15)]) rfl ?_
      refine x_aload_n 0 dX7_decade_101 rfl ?_
      obtain ⟨q17, h18, hf⟩ := bnd hf
      refine x_callVi (rest := []) [] (tX7_lyingAll v0  μ h18) wY_X7_lyingAll wI_X7_lyingAll wS_X7_lyingAll wL_X7_171 (grd_p h18) (by decide) rfl rfl (Nat.le_of_ble_eq_true rfl) ⟨Nat.le_of_ble_eq_true rfl, Nat.le_of_ble_eq_true rfl⟩ ⟨Nat.le_refl _, Nat.le_refl _⟩ dX7_decade_102 ?_
      refine x_istore [1, 2, 3, 4, 5, 0] dX7_decade_105 (by decide) (lv' := [(0, .ref (gB G + v0)), (1, .int v1), (2, .int v2), (3, .int v3), (4, .int x15), (5, .int q17.1)]) rfl ?_
      refine x_aload_n 0 dX7_decade_107 rfl ?_
      obtain ⟨q19, h20, hf⟩ := bnd hf
      refine x_callVv (rest := []) [] (tX7_lets v0  q17.2 h20) wY_X7_lets wI_X7_lets wS_X7_lets wL_X7_118 (grd_p h20) (by decide) rfl rfl (Nat.le_of_ble_eq_true rfl) ⟨Nat.le_of_ble_eq_true rfl, Nat.le_of_ble_eq_true rfl⟩ ⟨Nat.le_refl _, Nat.le_refl _⟩ dX7_decade_108 ?_
      refine x_iload_n 3 dX7_decade_111 rfl ?_
      refine x_if_ne 123 dX7_decade_112 rfl (fun c21 => ?_) (fun c21 => ?_)
      · rw [if_neg c21] at hf
        refine x_iload_n 3 dX7_decade_123 rfl ?_
        refine x_iconst 1 dX7_decade_124 (by decide) ?_
        refine x_icmp_ne 137 dX7_decade_125 rfl (fun c22 => ?_) (fun c22 => ?_)
        · rw [if_neg c22] at hf
          refine x_iload 4 dX7_decade_137 rfl ?_
          refine x_aload_n 0 dX7_decade_139 rfl ?_
          obtain ⟨x23, h24, hf⟩ := bnd hf
          refine x_getR wF_X7_19 (by decide) (by decide) rfl h24 dX7_decade_140 ?_
          refine x_iconst 1 dX7_decade_143 (by decide) ?_
          obtain ⟨x25, h26, hf⟩ := bnd hf
          refine x_iald h26 dX7_decade_144 ?_
          refine x_isub dX7_decade_145 ?_
          exact y_iret rfl rfl rfl hf dX7_decade_146
        · rw [if_pos c22] at hf
          refine x_aload_n 0 dX7_decade_128 rfl ?_
          refine x_iload 5 dX7_decade_129 rfl ?_
          obtain ⟨q27, h28, hf⟩ := bnd hf
          refine x_callVi (rest := []) [.int q17.1] (tX7_worthOf v0 q17.1 q19 h28) wY_X7_worthOf wI_X7_worthOf wS_X7_worthOf wL_X7_177 (grd_p h28) (by decide) rfl rfl (Nat.le_of_ble_eq_true rfl) ⟨Nat.le_of_ble_eq_true rfl, Nat.le_of_ble_eq_true rfl⟩ ⟨Nat.le_refl _, Nat.le_refl _⟩ dX7_decade_131 ?_
          refine x_goto 146 dX7_decade_134 rfl ?_
          exact y_iret rfl rfl rfl hf dX7_decade_146
      · rw [if_pos c21] at hf
        refine x_iload 5 dX7_decade_115 rfl ?_
        obtain ⟨q29, h30, hf⟩ := bnd hf
        refine x_callSi (rest := []) [.int q17.1] (tX7_ones q17.1 q19 h30) wY_X7_ones wT_X7_ones wL_X7_168 rfl (Nat.le_of_ble_eq_true rfl) ⟨Nat.le_of_ble_eq_true rfl, Nat.le_of_ble_eq_true rfl⟩ ⟨Nat.le_refl _, Nat.le_refl _⟩ dX7_decade_117 ?_
        refine x_goto 146 dX7_decade_120 rfl ?_
        exact y_iret rfl rfl rfl hf dX7_decade_146
    · rw [if_neg c12] at hf
      refine x_ldc2 wCL_X7_183 dX7_decade_45 ?_
      refine x_iload_n 1 dX7_decade_48 rfl ?_
      refine x_i2l dX7_decade_49 ?_
      refine x_lmul dX7_decade_50 ?_
      refine x_ldc2 wCL_X7_185 dX7_decade_51 ?_
      refine x_iload 4 dX7_decade_54 rfl ?_
      refine x_i2l dX7_decade_56 ?_
      refine x_lmul dX7_decade_57 ?_
      refine x_ladd dX7_decade_58 ?_
      refine x_lconst 1 dX7_decade_59 (by decide) ?_
      refine x_ladd dX7_decade_60 ?_
      refine x_lstore [1, 2, 3, 4, 5, 0] dX7_decade_61 (by decide) (lv' := [(0, .ref (gB G + v0)), (1, .int v1), (2, .int v2), (3, .int v3), (4, .int v4), (5, .long (((7919 * v1.toInt64) + (6151 * v4.toInt64)) + 1))]) rfl ?_
      refine x_aload_n 0 dX7_decade_63 rfl ?_
      refine x_lload 5 dX7_decade_64 rfl ?_
      refine x_lload 5 dX7_decade_66 rfl ?_
      refine x_lmul dX7_decade_68 ?_
      refine x_ldc2 wCL_X7_187 dX7_decade_69 ?_
      obtain ⟨x31, h32, hf⟩ := bnd hf
      refine x_lrem h32 dX7_decade_72 ?_
      refine x_ldc2 wCL_X7_189 dX7_decade_73 ?_
      obtain ⟨x33, h34, hf⟩ := bnd hf
      refine x_ldiv h34 dX7_decade_76 ?_
      refine x_l2i dX7_decade_77 ?_
      obtain ⟨q35, h36, hf⟩ := bnd hf
      refine x_callVv (rest := []) [.int x33.toInt32] (tX7_turn v0 x33.toInt32 μ h36) wY_X7_turn wI_X7_turn wS_X7_turn wL_X7_191 (grd_p h36) (by decide) rfl rfl (Nat.le_of_ble_eq_true rfl) ⟨Nat.le_of_ble_eq_true rfl, Nat.le_of_ble_eq_true rfl⟩ ⟨Nat.le_refl _, Nat.le_refl _⟩ dX7_decade_78 ?_
      refine x_aload_n 0 dX7_decade_81 rfl ?_
      refine x_iconst 1 dX7_decade_82 (by decide) ?_
      obtain ⟨q37, h38, hf⟩ := bnd hf
      refine x_callVi (rest := []) [.int 1] (tX7_passes v0 1 q35 h38) wY_X7_passes wI_X7_passes wS_X7_passes wL_X7_142 (grd_p h38) (by decide) rfl rfl (Nat.le_of_ble_eq_true rfl) ⟨Nat.le_of_ble_eq_true rfl, Nat.le_of_ble_eq_true rfl⟩ ⟨Nat.le_refl _, Nat.le_refl _⟩ dX7_decade_83 ?_
      refine x_pop dX7_decade_86 rfl ?_
      refine x_iinc 4 (v4 + 1) [1, 2, 3, 4, 0, 5] dX7_decade_87 rfl rfl (by decide) (lv' := [(0, .ref (gB G + v0)), (1, .int v1), (2, .int v2), (3, .int v3), (4, .int (v4 + 1)), (5, .long (((7919 * v1.toInt64) + (6151 * v4.toInt64)) + 1))]) rfl ?_
      refine x_goto 39 dX7_decade_90 rfl ?_
      refine x_sub [0, 1, 2, 3, 4] (lv' := [(0, .ref (gB G + v0)), (1, .int v1), (2, .int v2), (3, .int v3), (4, .int (v4 + 1))]) rfl ?_
      exact ih v0 v1 v2 v3 (v4 + 1) q37.2 hf
def fX7_decade (a : Nat) (u1 : Int32) (u2 : Int32) (u3 : Int32) (μ : Mu) : Option (Int32 × Mu) := grd (isO 7 a μ) ((fX7_in u1 0 9999 μ).bind fun q1 =>
    (if q1.1 = 0 then
    some ((-1), q1.2)
    else
    (fX7_in u2 1 60 q1.2).bind fun q4 =>
    (if q4.1 = 0 then
    some ((-1), q4.2)
    else
    (fX7_in u3 0 2 q4.2).bind fun q7 =>
    (if q7.1 = 0 then
    some ((-1), q7.2)
    else
    (fX7_looks a  q7.2).bind fun q10 =>
    fX7_decade_39  FU a u1 u2 u3 0 q10))))
set_option maxRecDepth 20000 in
theorem tX7_decade {G : Gm} {l : Launch} {r : Int32 × Mu} (a : Nat) (u1 : Int32) (u2 : Int32) (u3 : Int32) (μ : Mu) (hf : fX7_decade a u1 u2 u3 μ = some r) : Mt G l yX7_decade cX7_decade 7 (some .int) (5) 0 0 [.ref (gB G + a), .int u1, .int u2, .int u3] μ (some (.int r.1)) r.2 := by
  rw [fX7_decade] at hf
  have hf := grd_v hf
  refine Mt.of (by decide) (Nat.le_of_ble_eq_true rfl) (fun p e s m args below meth c => ?_)
  show LX7_decade G p l e s m args below meth c r 0 [(0, .ref (gB G + a)), (1, .int u1), (2, .int u2), (3, .int u3)] [] μ
  refine x_iload_n 1 dX7_decade_0 rfl ?_
  refine x_iconst 0 dX7_decade_1 (by decide) ?_
  refine x_sipush 9999 dX7_decade_2 (by decide) ?_
  obtain ⟨q1, h2, hf⟩ := bnd hf
  refine x_callSi (rest := []) [.int u1, .int 0, .int 9999] (tX7_in u1 0 9999 μ h2) wY_X7_in wT_X7_in wL_X7_56 rfl (Nat.le_of_ble_eq_true rfl) ⟨Nat.le_of_ble_eq_true rfl, Nat.le_of_ble_eq_true rfl⟩ ⟨Nat.le_refl _, Nat.le_refl _⟩ dX7_decade_5 ?_
  refine x_if_eq 30 dX7_decade_8 rfl (fun c3 => ?_) (fun c3 => ?_)
  · rw [if_pos c3] at hf
    refine x_iconst (-1) dX7_decade_30 (by decide) ?_
    exact y_iret rfl rfl rfl hf dX7_decade_31
  · rw [if_neg c3] at hf
    refine x_iload_n 2 dX7_decade_11 rfl ?_
    refine x_iconst 1 dX7_decade_12 (by decide) ?_
    refine x_bipush 60 dX7_decade_13 (by decide) ?_
    obtain ⟨q4, h5, hf⟩ := bnd hf
    refine x_callSi (rest := []) [.int u2, .int 1, .int 60] (tX7_in u2 1 60 q1.2 h5) wY_X7_in wT_X7_in wL_X7_56 rfl (Nat.le_of_ble_eq_true rfl) ⟨Nat.le_of_ble_eq_true rfl, Nat.le_of_ble_eq_true rfl⟩ ⟨Nat.le_refl _, Nat.le_refl _⟩ dX7_decade_15 ?_
    refine x_if_eq 30 dX7_decade_18 rfl (fun c6 => ?_) (fun c6 => ?_)
    · rw [if_pos c6] at hf
      refine x_iconst (-1) dX7_decade_30 (by decide) ?_
      exact y_iret rfl rfl rfl hf dX7_decade_31
    · rw [if_neg c6] at hf
      refine x_iload_n 3 dX7_decade_21 rfl ?_
      refine x_iconst 0 dX7_decade_22 (by decide) ?_
      refine x_iconst 2 dX7_decade_23 (by decide) ?_
      obtain ⟨q7, h8, hf⟩ := bnd hf
      refine x_callSi (rest := []) [.int u3, .int 0, .int 2] (tX7_in u3 0 2 q4.2 h8) wY_X7_in wT_X7_in wL_X7_56 rfl (Nat.le_of_ble_eq_true rfl) ⟨Nat.le_of_ble_eq_true rfl, Nat.le_of_ble_eq_true rfl⟩ ⟨Nat.le_refl _, Nat.le_refl _⟩ dX7_decade_24 ?_
      refine x_if_ne 32 dX7_decade_27 rfl (fun c9 => ?_) (fun c9 => ?_)
      · rw [if_neg c9] at hf
        refine x_aload_n 0 dX7_decade_32 rfl ?_
        obtain ⟨q10, h11, hf⟩ := bnd hf
        refine x_callVv (rest := []) [] (tX7_looks a  q7.2 h11) wY_X7_looks wI_X7_looks wS_X7_looks wL_X7_153 (grd_p h11) (by decide) rfl rfl (Nat.le_of_ble_eq_true rfl) ⟨Nat.le_of_ble_eq_true rfl, Nat.le_of_ble_eq_true rfl⟩ ⟨Nat.le_refl _, Nat.le_refl _⟩ dX7_decade_33 ?_
        refine x_iconst 0 dX7_decade_36 (by decide) ?_
        refine x_istore [1, 2, 3, 4, 0] dX7_decade_37 (by decide) (lv' := [(0, .ref (gB G + a)), (1, .int u1), (2, .int u2), (3, .int u3), (4, .int 0)]) rfl ?_
        exact tX7_decade_39  FU a u1 u2 u3 0 q10 hf
      · rw [if_pos c9] at hf
        refine x_iconst (-1) dX7_decade_30 (by decide) ?_
        exact y_iret rfl rfl rfl hf dX7_decade_31
abbrev LX7_keep (G : Gm) (p : Program) (l : Launch) (e : Env) (s : State) (m : MethodId) (args : Array Value) (below : List Frame) (meth : Method) (c : Code) (r : Int32 × Mu) (pc : Nat) (lv : List (Nat × Value)) (st : List Value) (μ : Mu) : Prop := Lt G p l e { frames := 0, cells := 0, slots := 0, locals := 40 * (0) } s m args below meth c cX7_keep 2 RX7 (some .int) "keep" (MQ below (Qm G (some (.int r.1)) r.2 0) args s 0 0 (fA G)) 0 0 pc lv st μ
def fX7_keep_13 : Nat → Nat → Int32 → Mu → Option (Int32 × Mu)
  | 0, _, _, _ => none
  | n + 1, v0, v1, μ => (if 21 ≤ v1 then
    (gI 7 v0 8 μ).bind fun x5 =>
    (pI 7 v0 8 (x5 + 1) μ).bind fun m7 =>
    (gI 7 v0 8 m7).bind fun x9 =>
    some (x9, m7)
    else
    (gR 7 v0 7 μ).bind fun x11 =>
    (gI 7 v0 8 μ).bind fun x13 =>
    (gR 7 v0 4 μ).bind fun x15 =>
    (aI 8 x15 v1 μ).bind fun x17 =>
    (bI 8 x11 ((21 * x13) + v1) x17 μ).bind fun m19 =>
    (fX7_keep_13 n) v0 (v1 + 1) m19)
set_option maxRecDepth 20000 in
theorem tX7_keep_13 {G : Gm} {p : Program} {l : Launch} {e : Env} {s : State} {m : MethodId} {args : Array Value} {below : List Frame} {meth : Method} {c : Code} {r : Int32 × Mu} : ∀ (n : Nat) (v0 : Nat) (v1 : Int32) (μ : Mu), fX7_keep_13 n v0 v1 μ = some r → LX7_keep G p l e s m args below meth c r 13 [(0, .ref (gB G + v0)), (1, .int v1)] [] μ := by
  intro n
  induction n with
  | zero =>
    intro v0 v1 μ hf
    simp [fX7_keep_13] at hf
  | succ n ih =>
    intro v0 v1 μ hf
    rw [fX7_keep_13] at hf
    refine x_iload_n 1 dX7_keep_13 rfl ?_
    refine x_bipush 21 dX7_keep_14 (by decide) ?_
    refine x_icmp_ge 45 dX7_keep_16 rfl (fun c4 => ?_) (fun c4 => ?_)
    · rw [if_pos c4] at hf
      refine x_aload_n 0 dX7_keep_45 rfl ?_
      refine x_dup dX7_keep_46 rfl ?_
      obtain ⟨x5, h6, hf⟩ := bnd hf
      refine x_getI wF_X7_124 (by decide) (by decide) rfl h6 dX7_keep_47 ?_
      refine x_iconst 1 dX7_keep_50 (by decide) ?_
      refine x_iadd dX7_keep_51 ?_
      obtain ⟨m7, h8, hf⟩ := bnd hf
      refine x_putI wF_X7_124 (by decide) (by decide) rfl rfl h8 dX7_keep_52 ?_
      refine x_aload_n 0 dX7_keep_55 rfl ?_
      obtain ⟨x9, h10, hf⟩ := bnd hf
      refine x_getI wF_X7_124 (by decide) (by decide) rfl h10 dX7_keep_56 ?_
      exact y_iret rfl rfl rfl hf dX7_keep_59
    · rw [if_neg c4] at hf
      refine x_aload_n 0 dX7_keep_19 rfl ?_
      obtain ⟨x11, h12, hf⟩ := bnd hf
      refine x_getR wF_X7_25 (by decide) (by decide) rfl h12 dX7_keep_20 ?_
      refine x_bipush 21 dX7_keep_23 (by decide) ?_
      refine x_aload_n 0 dX7_keep_25 rfl ?_
      obtain ⟨x13, h14, hf⟩ := bnd hf
      refine x_getI wF_X7_124 (by decide) (by decide) rfl h14 dX7_keep_26 ?_
      refine x_imul dX7_keep_29 ?_
      refine x_iload_n 1 dX7_keep_30 rfl ?_
      refine x_iadd dX7_keep_31 ?_
      refine x_aload_n 0 dX7_keep_32 rfl ?_
      obtain ⟨x15, h16, hf⟩ := bnd hf
      refine x_getR wF_X7_19 (by decide) (by decide) rfl h16 dX7_keep_33 ?_
      refine x_iload_n 1 dX7_keep_36 rfl ?_
      obtain ⟨x17, h18, hf⟩ := bnd hf
      refine x_iald h18 dX7_keep_37 ?_
      obtain ⟨m19, h20, hf⟩ := bnd hf
      refine x_iast h20 dX7_keep_38 ?_
      refine x_iinc 1 (v1 + 1) [1, 0] dX7_keep_39 rfl rfl (by decide) (lv' := [(0, .ref (gB G + v0)), (1, .int (v1 + 1))]) rfl ?_
      refine x_goto 13 dX7_keep_42 rfl ?_
      exact ih v0 (v1 + 1) m19 hf
def fX7_keep (a : Nat) (μ : Mu) : Option (Int32 × Mu) := grd (isO 7 a μ) ((gI 7 a 8 μ).bind fun x1 =>
    (if x1 = 2 then
    some ((-3), μ)
    else
    fX7_keep_13  FU a 0 μ))
set_option maxRecDepth 20000 in
theorem tX7_keep {G : Gm} {l : Launch} {r : Int32 × Mu} (a : Nat) (μ : Mu) (hf : fX7_keep a μ = some r) : Mt G l yX7_keep cX7_keep 2 (some .int) (0) 0 0 [.ref (gB G + a)] μ (some (.int r.1)) r.2 := by
  rw [fX7_keep] at hf
  have hf := grd_v hf
  refine Mt.of (by decide) (Nat.le_of_ble_eq_true rfl) (fun p e s m args below meth c => ?_)
  show LX7_keep G p l e s m args below meth c r 0 [(0, .ref (gB G + a))] [] μ
  refine x_aload_n 0 dX7_keep_0 rfl ?_
  obtain ⟨x1, h2, hf⟩ := bnd hf
  refine x_getI wF_X7_124 (by decide) (by decide) rfl h2 dX7_keep_1 ?_
  refine x_iconst 2 dX7_keep_4 (by decide) ?_
  refine x_icmp_ne 11 dX7_keep_5 rfl (fun c3 => ?_) (fun c3 => ?_)
  · rw [if_neg c3] at hf
    refine x_iconst 0 dX7_keep_11 (by decide) ?_
    refine x_istore_n [1, 0] dX7_keep_12 (by decide) (lv' := [(0, .ref (gB G + a)), (1, .int 0)]) rfl ?_
    exact tX7_keep_13  FU a 0 μ hf
  · rw [if_pos c3] at hf
    refine x_bipush (-3) dX7_keep_8 (by decide) ?_
    exact y_iret rfl rfl rfl hf dX7_keep_10
abbrev LX7_back (G : Gm) (p : Program) (l : Launch) (e : Env) (s : State) (m : MethodId) (args : Array Value) (below : List Frame) (meth : Method) (c : Code) (r : Int32 × Mu) (pc : Nat) (lv : List (Nat × Value)) (st : List Value) (μ : Mu) : Prop := Lt G p l e { frames := 0, cells := 0, slots := 0, locals := 40 * (0) } s m args below meth c cX7_back 2 RX7 (some .int) "back" (MQ below (Qm G (some (.int r.1)) r.2 0) args s 0 0 (fA G)) 0 0 pc lv st μ
def fX7_back_22 : Nat → Nat → Int32 → Mu → Option (Int32 × Mu)
  | 0, _, _, _ => none
  | n + 1, v0, v1, μ => (if 21 ≤ v1 then
    (pI 7 v0 6 0 μ).bind fun m9 =>
    (gI 7 v0 8 m9).bind fun x11 =>
    some (x11, m9)
    else
    (gR 7 v0 4 μ).bind fun x13 =>
    (gR 7 v0 7 μ).bind fun x15 =>
    (gI 7 v0 8 μ).bind fun x17 =>
    (aI 8 x15 ((21 * x17) + v1) μ).bind fun x19 =>
    (bI 8 x13 v1 x19 μ).bind fun m21 =>
    (fX7_back_22 n) v0 (v1 + 1) m21)
set_option maxRecDepth 20000 in
theorem tX7_back_22 {G : Gm} {p : Program} {l : Launch} {e : Env} {s : State} {m : MethodId} {args : Array Value} {below : List Frame} {meth : Method} {c : Code} {r : Int32 × Mu} : ∀ (n : Nat) (v0 : Nat) (v1 : Int32) (μ : Mu), fX7_back_22 n v0 v1 μ = some r → LX7_back G p l e s m args below meth c r 22 [(0, .ref (gB G + v0)), (1, .int v1)] [] μ := by
  intro n
  induction n with
  | zero =>
    intro v0 v1 μ hf
    simp [fX7_back_22] at hf
  | succ n ih =>
    intro v0 v1 μ hf
    rw [fX7_back_22] at hf
    refine x_iload_n 1 dX7_back_22 rfl ?_
    refine x_bipush 21 dX7_back_23 (by decide) ?_
    refine x_icmp_ge 54 dX7_back_25 rfl (fun c8 => ?_) (fun c8 => ?_)
    · rw [if_pos c8] at hf
      refine x_aload_n 0 dX7_back_54 rfl ?_
      refine x_iconst 0 dX7_back_55 (by decide) ?_
      obtain ⟨m9, h10, hf⟩ := bnd hf
      refine x_putI wF_X7_121 (by decide) (by decide) rfl rfl h10 dX7_back_56 ?_
      refine x_aload_n 0 dX7_back_59 rfl ?_
      obtain ⟨x11, h12, hf⟩ := bnd hf
      refine x_getI wF_X7_124 (by decide) (by decide) rfl h12 dX7_back_60 ?_
      exact y_iret rfl rfl rfl hf dX7_back_63
    · rw [if_neg c8] at hf
      refine x_aload_n 0 dX7_back_28 rfl ?_
      obtain ⟨x13, h14, hf⟩ := bnd hf
      refine x_getR wF_X7_19 (by decide) (by decide) rfl h14 dX7_back_29 ?_
      refine x_iload_n 1 dX7_back_32 rfl ?_
      refine x_aload_n 0 dX7_back_33 rfl ?_
      obtain ⟨x15, h16, hf⟩ := bnd hf
      refine x_getR wF_X7_25 (by decide) (by decide) rfl h16 dX7_back_34 ?_
      refine x_bipush 21 dX7_back_37 (by decide) ?_
      refine x_aload_n 0 dX7_back_39 rfl ?_
      obtain ⟨x17, h18, hf⟩ := bnd hf
      refine x_getI wF_X7_124 (by decide) (by decide) rfl h18 dX7_back_40 ?_
      refine x_imul dX7_back_43 ?_
      refine x_iload_n 1 dX7_back_44 rfl ?_
      refine x_iadd dX7_back_45 ?_
      obtain ⟨x19, h20, hf⟩ := bnd hf
      refine x_iald h20 dX7_back_46 ?_
      obtain ⟨m21, h22, hf⟩ := bnd hf
      refine x_iast h22 dX7_back_47 ?_
      refine x_iinc 1 (v1 + 1) [1, 0] dX7_back_48 rfl rfl (by decide) (lv' := [(0, .ref (gB G + v0)), (1, .int (v1 + 1))]) rfl ?_
      refine x_goto 22 dX7_back_51 rfl ?_
      exact ih v0 (v1 + 1) m21 hf
def fX7_back (a : Nat) (μ : Mu) : Option (Int32 × Mu) := grd (isO 7 a μ) ((gI 7 a 8 μ).bind fun x1 =>
    (if x1 = 0 then
    some ((-2), μ)
    else
    (gI 7 a 8 μ).bind fun x4 =>
    (pI 7 a 8 (x4 - 1) μ).bind fun m6 =>
    fX7_back_22  FU a 0 m6))
set_option maxRecDepth 20000 in
theorem tX7_back {G : Gm} {l : Launch} {r : Int32 × Mu} (a : Nat) (μ : Mu) (hf : fX7_back a μ = some r) : Mt G l yX7_back cX7_back 2 (some .int) (0) 0 0 [.ref (gB G + a)] μ (some (.int r.1)) r.2 := by
  rw [fX7_back] at hf
  have hf := grd_v hf
  refine Mt.of (by decide) (Nat.le_of_ble_eq_true rfl) (fun p e s m args below meth c => ?_)
  show LX7_back G p l e s m args below meth c r 0 [(0, .ref (gB G + a))] [] μ
  refine x_aload_n 0 dX7_back_0 rfl ?_
  obtain ⟨x1, h2, hf⟩ := bnd hf
  refine x_getI wF_X7_124 (by decide) (by decide) rfl h2 dX7_back_1 ?_
  refine x_if_ne 10 dX7_back_4 rfl (fun c3 => ?_) (fun c3 => ?_)
  · rw [if_neg c3] at hf
    refine x_aload_n 0 dX7_back_10 rfl ?_
    refine x_dup dX7_back_11 rfl ?_
    obtain ⟨x4, h5, hf⟩ := bnd hf
    refine x_getI wF_X7_124 (by decide) (by decide) rfl h5 dX7_back_12 ?_
    refine x_iconst 1 dX7_back_15 (by decide) ?_
    refine x_isub dX7_back_16 ?_
    obtain ⟨m6, h7, hf⟩ := bnd hf
    refine x_putI wF_X7_124 (by decide) (by decide) rfl rfl h7 dX7_back_17 ?_
    refine x_iconst 0 dX7_back_20 (by decide) ?_
    refine x_istore_n [1, 0] dX7_back_21 (by decide) (lv' := [(0, .ref (gB G + a)), (1, .int 0)]) rfl ?_
    exact tX7_back_22  FU a 0 m6 hf
  · rw [if_pos c3] at hf
    refine x_bipush (-2) dX7_back_7 (by decide) ?_
    exact y_iret rfl rfl rfl hf dX7_back_9
abbrev LX7_count (G : Gm) (p : Program) (l : Launch) (e : Env) (s : State) (m : MethodId) (args : Array Value) (below : List Frame) (meth : Method) (c : Code) (r : Int32 × Mu) (pc : Nat) (lv : List (Nat × Value)) (st : List Value) (μ : Mu) : Prop := Lt G p l e { frames := 2, cells := 0, slots := 0, locals := 40 * (2) } s m args below meth c cX7_count 2 RX7 (some .int) "count" (MQ below (Qm G (some (.int r.1)) r.2 0) args s 0 0 (fA G)) 0 0 pc lv st μ
def fX7_count (a : Nat) (u1 : Int32) (μ : Mu) : Option (Int32 × Mu) := grd (isO 7 a μ) ((if u1 = 0 then
    (gR 7 a 2 μ).bind fun x2 =>
    (aI 8 x2 0 μ).bind fun x4 =>
    some (x4, μ)
    else if u1 = 1 then
    (gR 7 a 2 μ).bind fun x7 =>
    (aI 8 x7 1 μ).bind fun x9 =>
    some (x9, μ)
    else if u1 = 2 then
    (gR 7 a 4 μ).bind fun x12 =>
    (aI 8 x12 0 μ).bind fun x14 =>
    some (x14, μ)
    else if u1 = 3 then
    (fX7_lyingAll a  μ).bind fun q17 =>
    (fX7_ones q17.1 q17.2).bind fun q19 =>
    some (q19.1, q19.2)
    else if u1 = 4 then
    (fX7_lyingAll a  μ).bind fun q22 =>
    (fX7_worthOf a q22.1 q22.2).bind fun q24 =>
    some (q24.1, q24.2)
    else if u1 = 5 then
    (fX7_isFrost a  μ).bind fun q27 =>
    (if q27.1 = 0 then
    some (0, q27.2)
    else
    some (1, q27.2))
    else if u1 = 6 then
    (gR 7 a 4 μ).bind fun x31 =>
    (aI 8 x31 1 μ).bind fun x33 =>
    some (x33, μ)
    else if u1 = 7 then
    (gI 7 a 10 μ).bind fun x36 =>
    some (x36, μ)
    else if u1 = 8 then
    (gI 7 a 6 μ).bind fun x39 =>
    some (x39, μ)
    else if u1 = 9 then
    (gI 7 a 8 μ).bind fun x42 =>
    some (x42, μ)
    else if u1 = 10 then
    (gI 7 a 1 μ).bind fun x45 =>
    some (x45, μ)
    else some ((-1), μ)))
set_option maxRecDepth 20000 in
theorem tX7_count {G : Gm} {l : Launch} {r : Int32 × Mu} (a : Nat) (u1 : Int32) (μ : Mu) (hf : fX7_count a u1 μ = some r) : Mt G l yX7_count cX7_count 2 (some .int) (2) 0 0 [.ref (gB G + a), .int u1] μ (some (.int r.1)) r.2 := by
  rw [fX7_count] at hf
  have hf := grd_v hf
  refine Mt.of (by decide) (Nat.le_of_ble_eq_true rfl) (fun p e s m args below meth c => ?_)
  show LX7_count G p l e s m args below meth c r 0 [(0, .ref (gB G + a)), (1, .int u1)] [] μ
  refine x_iload_n 1 dX7_count_0 rfl ?_
  by_cases c1 : u1 = 0
  · rw [if_pos c1] at hf
    refine x_tableIn 60 dX7_count_1 (by rw [c1]; decide) (by rw [c1]; decide) (by rw [c1]; rfl) rfl ?_
    refine x_aload_n 0 dX7_count_60 rfl ?_
    obtain ⟨x2, h3, hf⟩ := bnd hf
    refine x_getR wF_X7_13 (by decide) (by decide) rfl h3 dX7_count_61 ?_
    refine x_iconst 0 dX7_count_64 (by decide) ?_
    obtain ⟨x4, h5, hf⟩ := bnd hf
    refine x_iald h5 dX7_count_65 ?_
    exact y_iret rfl rfl rfl hf dX7_count_66
  rw [if_neg c1] at hf
  by_cases c6 : u1 = 1
  · rw [if_pos c6] at hf
    refine x_tableIn 67 dX7_count_1 (by rw [c6]; decide) (by rw [c6]; decide) (by rw [c6]; rfl) rfl ?_
    refine x_aload_n 0 dX7_count_67 rfl ?_
    obtain ⟨x7, h8, hf⟩ := bnd hf
    refine x_getR wF_X7_13 (by decide) (by decide) rfl h8 dX7_count_68 ?_
    refine x_iconst 1 dX7_count_71 (by decide) ?_
    obtain ⟨x9, h10, hf⟩ := bnd hf
    refine x_iald h10 dX7_count_72 ?_
    exact y_iret rfl rfl rfl hf dX7_count_73
  rw [if_neg c6] at hf
  by_cases c11 : u1 = 2
  · rw [if_pos c11] at hf
    refine x_tableIn 74 dX7_count_1 (by rw [c11]; decide) (by rw [c11]; decide) (by rw [c11]; rfl) rfl ?_
    refine x_aload_n 0 dX7_count_74 rfl ?_
    obtain ⟨x12, h13, hf⟩ := bnd hf
    refine x_getR wF_X7_19 (by decide) (by decide) rfl h13 dX7_count_75 ?_
    refine x_iconst 0 dX7_count_78 (by decide) ?_
    obtain ⟨x14, h15, hf⟩ := bnd hf
    refine x_iald h15 dX7_count_79 ?_
    exact y_iret rfl rfl rfl hf dX7_count_80
  rw [if_neg c11] at hf
  by_cases c16 : u1 = 3
  · rw [if_pos c16] at hf
    refine x_tableIn 81 dX7_count_1 (by rw [c16]; decide) (by rw [c16]; decide) (by rw [c16]; rfl) rfl ?_
    refine x_aload_n 0 dX7_count_81 rfl ?_
    obtain ⟨q17, h18, hf⟩ := bnd hf
    refine x_callVi (rest := []) [] (tX7_lyingAll a  μ h18) wY_X7_lyingAll wI_X7_lyingAll wS_X7_lyingAll wL_X7_171 (grd_p h18) (by decide) rfl rfl (Nat.le_of_ble_eq_true rfl) ⟨Nat.le_of_ble_eq_true rfl, Nat.le_of_ble_eq_true rfl⟩ ⟨Nat.le_refl _, Nat.le_refl _⟩ dX7_count_82 ?_
    obtain ⟨q19, h20, hf⟩ := bnd hf
    refine x_callSi (rest := []) [.int q17.1] (tX7_ones q17.1 q17.2 h20) wY_X7_ones wT_X7_ones wL_X7_168 rfl (Nat.le_of_ble_eq_true rfl) ⟨Nat.le_of_ble_eq_true rfl, Nat.le_of_ble_eq_true rfl⟩ ⟨Nat.le_refl _, Nat.le_refl _⟩ dX7_count_85 ?_
    exact y_iret rfl rfl rfl hf dX7_count_88
  rw [if_neg c16] at hf
  by_cases c21 : u1 = 4
  · rw [if_pos c21] at hf
    refine x_tableIn 89 dX7_count_1 (by rw [c21]; decide) (by rw [c21]; decide) (by rw [c21]; rfl) rfl ?_
    refine x_aload_n 0 dX7_count_89 rfl ?_
    refine x_aload_n 0 dX7_count_90 rfl ?_
    obtain ⟨q22, h23, hf⟩ := bnd hf
    refine x_callVi (rest := [.ref (gB G + a)]) [] (tX7_lyingAll a  μ h23) wY_X7_lyingAll wI_X7_lyingAll wS_X7_lyingAll wL_X7_171 (grd_p h23) (by decide) rfl rfl (Nat.le_of_ble_eq_true rfl) ⟨Nat.le_of_ble_eq_true rfl, Nat.le_of_ble_eq_true rfl⟩ ⟨Nat.le_refl _, Nat.le_refl _⟩ dX7_count_91 ?_
    obtain ⟨q24, h25, hf⟩ := bnd hf
    refine x_callVi (rest := []) [.int q22.1] (tX7_worthOf a q22.1 q22.2 h25) wY_X7_worthOf wI_X7_worthOf wS_X7_worthOf wL_X7_177 (grd_p h25) (by decide) rfl rfl (Nat.le_of_ble_eq_true rfl) ⟨Nat.le_of_ble_eq_true rfl, Nat.le_of_ble_eq_true rfl⟩ ⟨Nat.le_refl _, Nat.le_refl _⟩ dX7_count_94 ?_
    exact y_iret rfl rfl rfl hf dX7_count_97
  rw [if_neg c21] at hf
  by_cases c26 : u1 = 5
  · rw [if_pos c26] at hf
    refine x_tableIn 98 dX7_count_1 (by rw [c26]; decide) (by rw [c26]; decide) (by rw [c26]; rfl) rfl ?_
    refine x_aload_n 0 dX7_count_98 rfl ?_
    obtain ⟨q27, h28, hf⟩ := bnd hf
    refine x_callVi (rest := []) [] (tX7_isFrost a  μ h28) wY_X7_isFrost wI_X7_isFrost wS_X7_isFrost wL_X7_149 (grd_p h28) (by decide) rfl rfl (Nat.le_of_ble_eq_true rfl) ⟨Nat.le_of_ble_eq_true rfl, Nat.le_of_ble_eq_true rfl⟩ ⟨Nat.le_refl _, Nat.le_refl _⟩ dX7_count_99 ?_
    refine x_if_eq 109 dX7_count_102 rfl (fun c29 => ?_) (fun c29 => ?_)
    · rw [if_pos c29] at hf
      refine x_iconst 0 dX7_count_109 (by decide) ?_
      exact y_iret rfl rfl rfl hf dX7_count_110
    · rw [if_neg c29] at hf
      refine x_iconst 1 dX7_count_105 (by decide) ?_
      refine x_goto 110 dX7_count_106 rfl ?_
      exact y_iret rfl rfl rfl hf dX7_count_110
  rw [if_neg c26] at hf
  by_cases c30 : u1 = 6
  · rw [if_pos c30] at hf
    refine x_tableIn 111 dX7_count_1 (by rw [c30]; decide) (by rw [c30]; decide) (by rw [c30]; rfl) rfl ?_
    refine x_aload_n 0 dX7_count_111 rfl ?_
    obtain ⟨x31, h32, hf⟩ := bnd hf
    refine x_getR wF_X7_19 (by decide) (by decide) rfl h32 dX7_count_112 ?_
    refine x_iconst 1 dX7_count_115 (by decide) ?_
    obtain ⟨x33, h34, hf⟩ := bnd hf
    refine x_iald h34 dX7_count_116 ?_
    exact y_iret rfl rfl rfl hf dX7_count_117
  rw [if_neg c30] at hf
  by_cases c35 : u1 = 7
  · rw [if_pos c35] at hf
    refine x_tableIn 118 dX7_count_1 (by rw [c35]; decide) (by rw [c35]; decide) (by rw [c35]; rfl) rfl ?_
    refine x_aload_n 0 dX7_count_118 rfl ?_
    obtain ⟨x36, h37, hf⟩ := bnd hf
    refine x_getI wF_X7_127 (by decide) (by decide) rfl h37 dX7_count_119 ?_
    exact y_iret rfl rfl rfl hf dX7_count_122
  rw [if_neg c35] at hf
  by_cases c38 : u1 = 8
  · rw [if_pos c38] at hf
    refine x_tableIn 123 dX7_count_1 (by rw [c38]; decide) (by rw [c38]; decide) (by rw [c38]; rfl) rfl ?_
    refine x_aload_n 0 dX7_count_123 rfl ?_
    obtain ⟨x39, h40, hf⟩ := bnd hf
    refine x_getI wF_X7_121 (by decide) (by decide) rfl h40 dX7_count_124 ?_
    exact y_iret rfl rfl rfl hf dX7_count_127
  rw [if_neg c38] at hf
  by_cases c41 : u1 = 9
  · rw [if_pos c41] at hf
    refine x_tableIn 128 dX7_count_1 (by rw [c41]; decide) (by rw [c41]; decide) (by rw [c41]; rfl) rfl ?_
    refine x_aload_n 0 dX7_count_128 rfl ?_
    obtain ⟨x42, h43, hf⟩ := bnd hf
    refine x_getI wF_X7_124 (by decide) (by decide) rfl h43 dX7_count_129 ?_
    exact y_iret rfl rfl rfl hf dX7_count_132
  rw [if_neg c41] at hf
  by_cases c44 : u1 = 10
  · rw [if_pos c44] at hf
    refine x_tableIn 133 dX7_count_1 (by rw [c44]; decide) (by rw [c44]; decide) (by rw [c44]; rfl) rfl ?_
    refine x_aload_n 0 dX7_count_133 rfl ?_
    obtain ⟨x45, h46, hf⟩ := bnd hf
    refine x_getI wF_X7_81 (by decide) (by decide) rfl h46 dX7_count_134 ?_
    exact y_iret rfl rfl rfl hf dX7_count_137
  rw [if_neg c44] at hf
  refine x_tableOut 138 dX7_count_1 (tsw_out 11 (by decide) (fun j hj => ?_)) rfl ?_
  · match j, hj with
    | 0, _ => exact c1
    | 1, _ => exact c6
    | 2, _ => exact c11
    | 3, _ => exact c16
    | 4, _ => exact c21
    | 5, _ => exact c26
    | 6, _ => exact c30
    | 7, _ => exact c35
    | 8, _ => exact c38
    | 9, _ => exact c41
    | 10, _ => exact c44
  · refine x_iconst (-1) dX7_count_138 (by decide) ?_
    exact y_iret rfl rfl rfl hf dX7_count_139
