def sC (i : Int32) : Option Int32 := grd (¬ i < 0 ∧ i < 57 ∧ inb i 57 = true) (some (fiB.getD i.toNatClampNeg 0))
theorem x_sChrG {G : Gm} {p : Program} {l : Launch} {e : Env} {R : Room} {s : State} {m : MethodId} {args : Array Value} {below : List Frame} {meth : Method} {c : Code} {cc : ByteArray} {nL : Nat} {own : String} {ret : Option FieldType} {nm : String} {Q : State → Prop} {cells slots pc : Nat} {lv : List (Nat × Value)} {st : List Value} {μ : Mu} {aK aV : Nat} {j : Nat} {i x : Int32} (hg : sC i = some x) (hk : Sk (fA G) aK aV s s.heap) (hlk : Cond.methodLink own j yJ0_charAt_5068e ∈ TB) (hrm : (st.map fun v => v.category).sum ≤ 8) (hR : 4 ≤ R.frames ∧ 141 ≤ R.locals) (hf : cells ≤ R.cells ∧ slots ≤ R.slots) (hd : decode cc pc = .ok (.invokevirtual j, 3)) (k : Lt G p l e R s m args below meth c cc nL own ret nm Q cells slots (pc + 3) lv (.int x :: st) μ) : Lt G p l e R s m args below meth c cc nL own ret nm Q cells slots pc lv (.int i :: .ref aK :: st) μ := by
  obtain ⟨h0, h1, h2⟩ := grd_p hg
  have hx := Option.some.inj (grd_v hg)
  subst hx
  exact x_sChr (inb_p h2) h0 h1 hk hlk hrm hR hf hd k
abbrev PmK (aK aV : Nat) (G : Gm) (avs : List Value) (μ : Mu) : Array Value → State → Prop := va_Pc avs (fun U => (U.heap.size = gB G + μ.1 ∧ Hp G μ U.heap ∧ Tt G U) ∧ Sk (fA G) aK aV U U.heap ∧ vk_R RX6 59 fiT aK U)
def MtK (aK aV : Nat) (G : Gm) (l : Launch) (y : MethodName) (cc : ByteArray) (maxL : Nat) (ret : Option FieldType) (lev mc ms : Nat) (avs : List Value) (μ : Mu) (r : Option Value) (μ' : Mu) : Prop :=
  Met l y (.code y cc maxL ret :: TB) { frames := lev, cells := mc, slots := ms, locals := 40 * lev } (PmK aK aV G avs μ) (Qm G r μ' mc) mc ms (fA G)
theorem MtK.of {aK aV : Nat} {G : Gm} {l : Launch} {y : MethodName} {cc : ByteArray} {maxL : Nat} {ret : Option FieldType} {lev mc ms : Nat} {avs : List Value} {μ : Mu} {r : Option Value} {μ' : Mu} (hy : plainName y.cls = true) (hn : (lg_sl avs).length ≤ maxL)
    (body : ∀ p e s m args below meth c, Sk (fA G) aK aV s s.heap → vk_R RX6 59 fiT aK s → Lt G p l e { frames := lev, cells := mc, slots := ms, locals := 40 * lev } s m args below meth c cc maxL y.cls ret y.name (MQ below (Qm G r μ' mc) args s mc ms (fA G)) 0 0 0 (lv_args 0 avs) [] μ) : MtK aK aV G l y cc maxL ret lev mc ms avs μ r μ' := by
  refine Met.ofW (cc := cc) (maxL := maxL) (ret := ret) hy rfl ?_
  intro p e s m args below meth c s₁ B hml hv
  obtain ⟨rfl, ⟨hz, hH, hT⟩, hk, hkR⟩ := hv
  have hts := atoms_spec (ws := .code y cc maxL ret :: TB) B.pre
  have hl := lv_entry avs (n := maxL) hn
  rw [lg_entry_eq]
  exact body p e s m avs.toArray below meth c hk hkR ⟨B.exec, B.bytes, hml, findClass_of_methodNamed B.named, fun w hw => hts w (List.mem_cons_of_mem _ hw), hT, B.notSynchronized, by omega, B.returns, (name_of_methodNamed B.named B.method).1⟩ hz s.heap [] _ hH va_S.rf hl
abbrev LX6_init (G : Gm) (p : Program) (l : Launch) (e : Env) (s : State) (m : MethodId) (args : Array Value) (below : List Frame) (meth : Method) (c : Code) (r : Mu) (pc : Nat) (lv : List (Nat × Value)) (st : List Value) (μ : Mu) : Prop := Lt G p l e { frames := 7, cells := 92, slots := 2875, locals := 40 * (7) } s m args below meth c cX6_init 2 RX6 none "<init>" (MQ below (Qm G none r 92) args s 92 2875 (fA G)) 92 2875 pc lv st μ
def fX6_init_97 : Nat → Nat → Int32 → Mu → Option (Mu)
  | 0, _, _, _ => none
  | n + 1, v0, v1, μ => (if 57 ≤ v1 then
    (gR 6 v0 0 μ).bind fun x50 =>
    (gR 6 v0 1 μ).bind fun x52 =>
    (fX3_readInto x50 x52 μ).bind fun q54 =>
    (gR 6 v0 0 q54.2).bind fun x56 =>
    (fX3_empty x56  q54.2).bind fun q58 =>
    some q58.2
    else
    (gR 6 v0 0 μ).bind fun x60 =>
    (sC v1).bind fun x62 =>
    (fX3_add x60 x62 μ).bind fun q64 =>
    (fX6_init_97 n) v0 (v1 + 1) q64.2)
set_option maxRecDepth 20000 in
theorem tX6_init_97 {G : Gm} {p : Program} {l : Launch} {e : Env} {s : State} {m : MethodId} {args : Array Value} {below : List Frame} {meth : Method} {c : Code} {r : Mu} {aK aV : Nat} (hk : Sk (fA G) aK aV s s.heap) (hkR : vk_R RX6 59 fiT aK s) : ∀ (n : Nat) (v0 : Nat) (v1 : Int32) (μ : Mu), fX6_init_97 n v0 v1 μ = some r → LX6_init G p l e s m args below meth c r 97 [(0, .ref (gB G + v0)), (1, .int v1)] [] μ := by
  intro n
  induction n with
  | zero =>
    intro v0 v1 μ hf
    simp [fX6_init_97] at hf
  | succ n ih =>
    intro v0 v1 μ hf
    rw [fX6_init_97] at hf
    refine x_iload_n 1 dX6_init_97 rfl ?_
    refine x_ldcS hkR dX6_init_98 ?_
    refine x_sLen hk wL_X6_61 (Nat.le_of_ble_eq_true rfl) ⟨Nat.le_of_ble_eq_true rfl, Nat.le_of_ble_eq_true rfl⟩ ⟨Nat.le_of_ble_eq_true rfl, Nat.le_of_ble_eq_true rfl⟩ dX6_init_100 ?_
    refine x_icmp_ge 126 dX6_init_103 rfl (fun c49 => ?_) (fun c49 => ?_)
    · rw [if_pos c49] at hf
      refine x_aload_n 0 dX6_init_126 rfl ?_
      obtain ⟨x50, h51, hf⟩ := bnd hf
      refine x_getR wF_X6_12 (by decide) (by decide) rfl h51 dX6_init_127 ?_
      refine x_aload_n 0 dX6_init_130 rfl ?_
      obtain ⟨x52, h53, hf⟩ := bnd hf
      refine x_getR wF_X6_19 (by decide) (by decide) rfl h53 dX6_init_131 ?_
      obtain ⟨q54, h55, hf⟩ := bnd hf
      refine x_callVi (rest := []) [.ref (gB G + x52)] (tX3_readInto x50 x52 μ h55) wY_X3_readInto wI_X3_readInto wS_X3_readInto wL_X6_75 (grd_p h55) (by decide) rfl rfl (Nat.le_of_ble_eq_true rfl) ⟨Nat.le_of_ble_eq_true rfl, Nat.le_of_ble_eq_true rfl⟩ ⟨Nat.le_refl _, Nat.le_refl _⟩ dX6_init_134 ?_
      refine x_pop dX6_init_137 rfl ?_
      refine x_aload_n 0 dX6_init_138 rfl ?_
      obtain ⟨x56, h57, hf⟩ := bnd hf
      refine x_getR wF_X6_12 (by decide) (by decide) rfl h57 dX6_init_139 ?_
      obtain ⟨q58, h59, hf⟩ := bnd hf
      refine x_callVi (rest := []) [] (tX3_empty x56  q54.2 h59) wY_X3_empty wI_X3_empty wS_X3_empty wL_X6_79 (grd_p h59) (by decide) rfl rfl (Nat.le_of_ble_eq_true rfl) ⟨Nat.le_of_ble_eq_true rfl, Nat.le_of_ble_eq_true rfl⟩ ⟨Nat.le_refl _, Nat.le_refl _⟩ dX6_init_142 ?_
      refine x_pop dX6_init_145 rfl ?_
      exact y_vret rfl rfl rfl hf dX6_init_146
    · rw [if_neg c49] at hf
      refine x_aload_n 0 dX6_init_106 rfl ?_
      obtain ⟨x60, h61, hf⟩ := bnd hf
      refine x_getR wF_X6_12 (by decide) (by decide) rfl h61 dX6_init_107 ?_
      refine x_ldcS hkR dX6_init_110 ?_
      refine x_iload_n 1 dX6_init_112 rfl ?_
      obtain ⟨x62, h63, hf⟩ := bnd hf
      refine x_sChrG h63 hk wL_X6_67 (Nat.le_of_ble_eq_true rfl) ⟨Nat.le_of_ble_eq_true rfl, Nat.le_of_ble_eq_true rfl⟩ ⟨Nat.le_of_ble_eq_true rfl, Nat.le_of_ble_eq_true rfl⟩ dX6_init_113 ?_
      obtain ⟨q64, h65, hf⟩ := bnd hf
      refine x_callVi (rest := []) [.int x62] (tX3_add x60 x62 μ h65) wY_X3_add wI_X3_add wS_X3_add wL_X6_71 (grd_p h65) (by decide) rfl rfl (Nat.le_of_ble_eq_true rfl) ⟨Nat.le_of_ble_eq_true rfl, Nat.le_of_ble_eq_true rfl⟩ ⟨Nat.le_refl _, Nat.le_refl _⟩ dX6_init_116 ?_
      refine x_pop dX6_init_119 rfl ?_
      refine x_iinc 1 (v1 + 1) [1, 0] dX6_init_120 rfl rfl (by decide) (lv' := [(0, .ref (gB G + v0)), (1, .int (v1 + 1))]) rfl ?_
      refine x_goto 97 dX6_init_123 rfl ?_
      exact ih v0 (v1 + 1) q64.2 hf
def fX6_init (a : Nat) (μ : Mu) : Option (Mu) := grd (isO 6 a μ) ((nO 3 μ).bind fun q1 =>
    (fX3_init q1.1  q1.2).bind fun q3 =>
    (pR 6 a 0 q1.1 q3).bind fun m5 =>
    (nO 0 m5).bind fun q7 =>
    (fX0_init q7.1  q7.2).bind fun q9 =>
    (pR 6 a 1 q7.1 q9).bind fun m11 =>
    (nO 0 m11).bind fun q13 =>
    (fX0_init q13.1  q13.2).bind fun q15 =>
    (pR 6 a 2 q13.1 q15).bind fun m17 =>
    (nO 4 m17).bind fun q19 =>
    (fX4_init q19.1 8 49 q19.2).bind fun q21 =>
    (pR 6 a 3 q19.1 q21).bind fun m23 =>
    (nO 4 m23).bind fun q25 =>
    (fX4_init q25.1 2 13 q25.2).bind fun q27 =>
    (pR 6 a 4 q25.1 q27).bind fun m29 =>
    (nO 5 m29).bind fun q31 =>
    (fX5_init q31.1  q31.2).bind fun q33 =>
    (pR 6 a 5 q31.1 q33).bind fun m35 =>
    (nO 2 m35).bind fun q37 =>
    (fX2_init q37.1  q37.2).bind fun q39 =>
    (pR 6 a 6 q37.1 q39).bind fun m41 =>
    (nO 1 m41).bind fun q43 =>
    (fX1_init q43.1  q43.2).bind fun q45 =>
    (pR 6 a 7 q43.1 q45).bind fun m47 =>
    fX6_init_97  FU a 0 m47)
set_option maxRecDepth 20000 in
theorem tX6_init {G : Gm} {l : Launch} {r : Mu} {aK aV : Nat} (a : Nat) (μ : Mu) (hf : fX6_init a μ = some r) : MtK aK aV G l yX6_init cX6_init 2 none (7) 92 2875 [.ref (gB G + a)] μ none r := by
  rw [fX6_init] at hf
  have hf := grd_v hf
  refine MtK.of (by decide) (Nat.le_of_ble_eq_true rfl) (fun p e s m args below meth c hk hkR => ?_)
  refine x_aload_n 0 dX6_init_0 rfl ?_
  refine x_objInit wL_X6_3 (Nat.le_of_ble_eq_true rfl) (Nat.le_of_ble_eq_true rfl) dX6_init_1 ?_
  refine x_aload_n 0 dX6_init_4 rfl ?_
  obtain ⟨q1, h2, hf⟩ := bnd hf
  refine x_new wK_X6_9 wN_3 wA_3 (by decide) h2 ⟨Nat.le_of_ble_eq_true rfl, Nat.le_of_ble_eq_true rfl⟩ dX6_init_5 ?_
  refine x_dup dX6_init_8 rfl ?_
  obtain ⟨q3, h4, hf⟩ := bnd hf
  refine x_callIv (rest := [.ref (gB G + q1.1), .ref (gB G + a)]) [] (tX3_init q1.1  q1.2 h4) wY_X3_init wI_X3_init rfl wL_X6_11 rfl (Nat.le_of_ble_eq_true rfl) ⟨Nat.le_of_ble_eq_true rfl, Nat.le_of_ble_eq_true rfl⟩ ⟨Nat.le_of_ble_eq_true rfl, Nat.le_of_ble_eq_true rfl⟩ dX6_init_9 ?_
  obtain ⟨m5, h6, hf⟩ := bnd hf
  refine x_putRF wF_X6_12 (by decide) (by decide) rfl rfl rfl rfl h6 dX6_init_12 ?_
  refine x_aload_n 0 dX6_init_15 rfl ?_
  obtain ⟨q7, h8, hf⟩ := bnd hf
  refine x_new wK_X6_16 wN_0 wA_0 (by decide) h8 ⟨Nat.le_of_ble_eq_true rfl, Nat.le_of_ble_eq_true rfl⟩ dX6_init_16 ?_
  refine x_dup dX6_init_19 rfl ?_
  obtain ⟨q9, h10, hf⟩ := bnd hf
  refine x_callIv (rest := [.ref (gB G + q7.1), .ref (gB G + a)]) [] (tX0_init q7.1  q7.2 h10) wY_X0_init wI_X0_init rfl wL_X6_18 rfl (Nat.le_of_ble_eq_true rfl) ⟨Nat.le_of_ble_eq_true rfl, Nat.le_of_ble_eq_true rfl⟩ ⟨Nat.le_of_ble_eq_true rfl, Nat.le_of_ble_eq_true rfl⟩ dX6_init_20 ?_
  obtain ⟨m11, h12, hf⟩ := bnd hf
  refine x_putRF wF_X6_19 (by decide) (by decide) rfl rfl rfl rfl h12 dX6_init_23 ?_
  refine x_aload_n 0 dX6_init_26 rfl ?_
  obtain ⟨q13, h14, hf⟩ := bnd hf
  refine x_new wK_X6_16 wN_0 wA_0 (by decide) h14 ⟨Nat.le_of_ble_eq_true rfl, Nat.le_of_ble_eq_true rfl⟩ dX6_init_27 ?_
  refine x_dup dX6_init_30 rfl ?_
  obtain ⟨q15, h16, hf⟩ := bnd hf
  refine x_callIv (rest := [.ref (gB G + q13.1), .ref (gB G + a)]) [] (tX0_init q13.1  q13.2 h16) wY_X0_init wI_X0_init rfl wL_X6_18 rfl (Nat.le_of_ble_eq_true rfl) ⟨Nat.le_of_ble_eq_true rfl, Nat.le_of_ble_eq_true rfl⟩ ⟨Nat.le_of_ble_eq_true rfl, Nat.le_of_ble_eq_true rfl⟩ dX6_init_31 ?_
  obtain ⟨m17, h18, hf⟩ := bnd hf
  refine x_putRF wF_X6_23 (by decide) (by decide) rfl rfl rfl rfl h18 dX6_init_34 ?_
  refine x_aload_n 0 dX6_init_37 rfl ?_
  obtain ⟨q19, h20, hf⟩ := bnd hf
  refine x_new wK_X6_26 wN_4 wA_4 (by decide) h20 ⟨Nat.le_of_ble_eq_true rfl, Nat.le_of_ble_eq_true rfl⟩ dX6_init_38 ?_
  refine x_dup dX6_init_41 rfl ?_
  refine x_bipush 8 dX6_init_42 (by decide) ?_
  obtain ⟨q21, h22, hf⟩ := bnd hf
  refine x_callIv (rest := [.ref (gB G + q19.1), .ref (gB G + a)]) [.int 8] (tX4_init q19.1 8 49 q19.2 h22) wY_X4_init wI_X4_init rfl wL_X6_28 rfl (Nat.le_of_ble_eq_true rfl) ⟨Nat.le_of_ble_eq_true rfl, Nat.le_of_ble_eq_true rfl⟩ ⟨Nat.le_of_ble_eq_true rfl, Nat.le_of_ble_eq_true rfl⟩ dX6_init_44 ?_
  obtain ⟨m23, h24, hf⟩ := bnd hf
  refine x_putRF wF_X6_31 (by decide) (by decide) rfl rfl rfl rfl h24 dX6_init_47 ?_
  refine x_aload_n 0 dX6_init_50 rfl ?_
  obtain ⟨q25, h26, hf⟩ := bnd hf
  refine x_new wK_X6_26 wN_4 wA_4 (by decide) h26 ⟨Nat.le_of_ble_eq_true rfl, Nat.le_of_ble_eq_true rfl⟩ dX6_init_51 ?_
  refine x_dup dX6_init_54 rfl ?_
  refine x_iconst 2 dX6_init_55 (by decide) ?_
  obtain ⟨q27, h28, hf⟩ := bnd hf
  refine x_callIv (rest := [.ref (gB G + q25.1), .ref (gB G + a)]) [.int 2] (tX4_init q25.1 2 13 q25.2 h28) wY_X4_init wI_X4_init rfl wL_X6_28 rfl (Nat.le_of_ble_eq_true rfl) ⟨Nat.le_of_ble_eq_true rfl, Nat.le_of_ble_eq_true rfl⟩ ⟨Nat.le_of_ble_eq_true rfl, Nat.le_of_ble_eq_true rfl⟩ dX6_init_56 ?_
  obtain ⟨m29, h30, hf⟩ := bnd hf
  refine x_putRF wF_X6_35 (by decide) (by decide) rfl rfl rfl rfl h30 dX6_init_59 ?_
  refine x_aload_n 0 dX6_init_62 rfl ?_
  obtain ⟨q31, h32, hf⟩ := bnd hf
  refine x_new wK_X6_38 wN_5 wA_5 (by decide) h32 ⟨Nat.le_of_ble_eq_true rfl, Nat.le_of_ble_eq_true rfl⟩ dX6_init_63 ?_
  refine x_dup dX6_init_66 rfl ?_
  obtain ⟨q33, h34, hf⟩ := bnd hf
  refine x_callIv (rest := [.ref (gB G + q31.1), .ref (gB G + a)]) [] (tX5_init q31.1  q31.2 h34) wY_X5_init wI_X5_init rfl wL_X6_40 rfl (Nat.le_of_ble_eq_true rfl) ⟨Nat.le_of_ble_eq_true rfl, Nat.le_of_ble_eq_true rfl⟩ ⟨Nat.le_of_ble_eq_true rfl, Nat.le_of_ble_eq_true rfl⟩ dX6_init_67 ?_
  obtain ⟨m35, h36, hf⟩ := bnd hf
  refine x_putRF wF_X6_41 (by decide) (by decide) rfl rfl rfl rfl h36 dX6_init_70 ?_
  refine x_aload_n 0 dX6_init_73 rfl ?_
  obtain ⟨q37, h38, hf⟩ := bnd hf
  refine x_new wK_X6_45 wN_2 wA_2 (by decide) h38 ⟨Nat.le_of_ble_eq_true rfl, Nat.le_of_ble_eq_true rfl⟩ dX6_init_74 ?_
  refine x_dup dX6_init_77 rfl ?_
  obtain ⟨q39, h40, hf⟩ := bnd hf
  refine x_callIv (rest := [.ref (gB G + q37.1), .ref (gB G + a)]) [] (tX2_init q37.1  q37.2 h40) wY_X2_init wI_X2_init rfl wL_X6_47 rfl (Nat.le_of_ble_eq_true rfl) ⟨Nat.le_of_ble_eq_true rfl, Nat.le_of_ble_eq_true rfl⟩ ⟨Nat.le_of_ble_eq_true rfl, Nat.le_of_ble_eq_true rfl⟩ dX6_init_78 ?_
  obtain ⟨m41, h42, hf⟩ := bnd hf
  refine x_putRF wF_X6_48 (by decide) (by decide) rfl rfl rfl rfl h42 dX6_init_81 ?_
  refine x_aload_n 0 dX6_init_84 rfl ?_
  obtain ⟨q43, h44, hf⟩ := bnd hf
  refine x_new wK_X6_52 wN_1 wA_1 (by decide) h44 ⟨Nat.le_of_ble_eq_true rfl, Nat.le_of_ble_eq_true rfl⟩ dX6_init_85 ?_
  refine x_dup dX6_init_88 rfl ?_
  obtain ⟨q45, h46, hf⟩ := bnd hf
  refine x_callIv (rest := [.ref (gB G + q43.1), .ref (gB G + a)]) [] (tX1_init q43.1  q43.2 h46) wY_X1_init wI_X1_init rfl wL_X6_54 rfl (Nat.le_of_ble_eq_true rfl) ⟨Nat.le_of_ble_eq_true rfl, Nat.le_of_ble_eq_true rfl⟩ ⟨Nat.le_of_ble_eq_true rfl, Nat.le_of_ble_eq_true rfl⟩ dX6_init_89 ?_
  obtain ⟨m47, h48, hf⟩ := bnd hf
  refine x_putRF wF_X6_55 (by decide) (by decide) rfl rfl rfl rfl h48 dX6_init_92 ?_
  refine x_iconst 0 dX6_init_95 (by decide) ?_
  refine x_istore_n [1, 0] dX6_init_96 (by decide) (lv' := [(0, .ref (gB G + a)), (1, .int 0)]) rfl ?_
  exact tX6_init_97 hk hkR FU a 0 m47 hf
