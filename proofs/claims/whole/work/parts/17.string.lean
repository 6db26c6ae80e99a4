theorem dJ0_length_8abf5_0 : decode cJ0_length_8abf5 0 = .ok (.aload_n 0, 1) := by decide +kernel
theorem dJ0_length_8abf5_1 : decode cJ0_length_8abf5 1 = .ok (.getfield 9, 3) := by decide +kernel
theorem dJ0_length_8abf5_4 : decode cJ0_length_8abf5 4 = .ok (.arraylength, 1) := by decide +kernel
theorem dJ0_length_8abf5_5 : decode cJ0_length_8abf5 5 = .ok (.aload_n 0, 1) := by decide +kernel
theorem dJ0_length_8abf5_6 : decode cJ0_length_8abf5 6 = .ok (.invokevirtual 335, 3) := by decide +kernel
theorem dJ0_length_8abf5_9 : decode cJ0_length_8abf5 9 = .ok (.ishr, 1) := by decide +kernel
theorem dJ0_length_8abf5_10 : decode cJ0_length_8abf5 10 = .ok (.ireturn, 1) := by decide +kernel
theorem dJ0_charAt_5068e_0 : decode cJ0_charAt_5068e 0 = .ok (.aload_n 0, 1) := by decide +kernel
theorem dJ0_charAt_5068e_1 : decode cJ0_charAt_5068e 1 = .ok (.invokevirtual 492, 3) := by decide +kernel
theorem dJ0_charAt_5068e_4 : decode cJ0_charAt_5068e 4 = .ok (.ifCond .eq 12, 3) := by decide +kernel
theorem dJ0_charAt_5068e_7 : decode cJ0_charAt_5068e 7 = .ok (.aload_n 0, 1) := by decide +kernel
theorem dJ0_charAt_5068e_8 : decode cJ0_charAt_5068e 8 = .ok (.getfield 9, 3) := by decide +kernel
theorem dJ0_charAt_5068e_11 : decode cJ0_charAt_5068e 11 = .ok (.iload_n 1, 1) := by decide +kernel
theorem dJ0_charAt_5068e_12 : decode cJ0_charAt_5068e 12 = .ok (.invokestatic 495, 3) := by decide +kernel
theorem dJ0_charAt_5068e_15 : decode cJ0_charAt_5068e 15 = .ok (.ireturn, 1) := by decide +kernel
theorem dJ0_charAt_5068e_16 : decode cJ0_charAt_5068e 16 = .ok (.aload_n 0, 1) := by decide +kernel
theorem dJ0_charAt_5068e_17 : decode cJ0_charAt_5068e 17 = .ok (.getfield 9, 3) := by decide +kernel
theorem dJ0_charAt_5068e_20 : decode cJ0_charAt_5068e 20 = .ok (.iload_n 1, 1) := by decide +kernel
theorem dJ0_charAt_5068e_21 : decode cJ0_charAt_5068e 21 = .ok (.invokestatic 498, 3) := by decide +kernel
theorem dJ0_charAt_5068e_24 : decode cJ0_charAt_5068e 24 = .ok (.ireturn, 1) := by decide +kernel
theorem dJ0_coder_7d493_0 : decode cJ0_coder_7d493 0 = .ok (.getstatic 38, 3) := by decide +kernel
theorem dJ0_coder_7d493_3 : decode cJ0_coder_7d493 3 = .ok (.ifCond .eq 10, 3) := by decide +kernel
theorem dJ0_coder_7d493_6 : decode cJ0_coder_7d493 6 = .ok (.aload_n 0, 1) := by decide +kernel
theorem dJ0_coder_7d493_7 : decode cJ0_coder_7d493 7 = .ok (.getfield 15, 3) := by decide +kernel
theorem dJ0_coder_7d493_10 : decode cJ0_coder_7d493 10 = .ok (.goto 4, 3) := by decide +kernel
theorem dJ0_coder_7d493_13 : decode cJ0_coder_7d493 13 = .ok (.iconst 1, 1) := by decide +kernel
theorem dJ0_coder_7d493_14 : decode cJ0_coder_7d493 14 = .ok (.ireturn, 1) := by decide +kernel
theorem dJ0_isLatin1_aae02_0 : decode cJ0_isLatin1_aae02 0 = .ok (.getstatic 38, 3) := by decide +kernel
theorem dJ0_isLatin1_aae02_3 : decode cJ0_isLatin1_aae02 3 = .ok (.ifCond .eq 14, 3) := by decide +kernel
theorem dJ0_isLatin1_aae02_6 : decode cJ0_isLatin1_aae02 6 = .ok (.aload_n 0, 1) := by decide +kernel
theorem dJ0_isLatin1_aae02_7 : decode cJ0_isLatin1_aae02 7 = .ok (.getfield 15, 3) := by decide +kernel
theorem dJ0_isLatin1_aae02_10 : decode cJ0_isLatin1_aae02 10 = .ok (.ifCond .ne 7, 3) := by decide +kernel
theorem dJ0_isLatin1_aae02_13 : decode cJ0_isLatin1_aae02 13 = .ok (.iconst 1, 1) := by decide +kernel
theorem dJ0_isLatin1_aae02_14 : decode cJ0_isLatin1_aae02 14 = .ok (.goto 4, 3) := by decide +kernel
theorem dJ0_isLatin1_aae02_17 : decode cJ0_isLatin1_aae02 17 = .ok (.iconst 0, 1) := by decide +kernel
theorem dJ0_isLatin1_aae02_18 : decode cJ0_isLatin1_aae02 18 = .ok (.ireturn, 1) := by decide +kernel
theorem dJ0_checkIndex_df160_0 : decode cJ0_checkIndex_df160 0 = .ok (.iload_n 0, 1) := by decide +kernel
theorem dJ0_checkIndex_df160_1 : decode cJ0_checkIndex_df160 1 = .ok (.iload_n 1, 1) := by decide +kernel
theorem dJ0_checkIndex_df160_2 : decode cJ0_checkIndex_df160 2 = .ok (.getstatic 1053, 3) := by decide +kernel
theorem dJ0_checkIndex_df160_5 : decode cJ0_checkIndex_df160 5 = .ok (.invokestatic 1059, 3) := by decide +kernel
theorem dJ0_checkIndex_df160_8 : decode cJ0_checkIndex_df160 8 = .ok (.pop, 1) := by decide +kernel
theorem dJ0_checkIndex_df160_9 : decode cJ0_checkIndex_df160 9 = .ok (.return_, 1) := by decide +kernel
theorem dJ1_charAt_3b067_0 : decode cJ1_charAt_3b067 0 = .ok (.iload_n 1, 1) := by decide +kernel
theorem dJ1_charAt_3b067_1 : decode cJ1_charAt_3b067 1 = .ok (.aload_n 0, 1) := by decide +kernel
theorem dJ1_charAt_3b067_2 : decode cJ1_charAt_3b067 2 = .ok (.arraylength, 1) := by decide +kernel
theorem dJ1_charAt_3b067_3 : decode cJ1_charAt_3b067 3 = .ok (.invokestatic 9, 3) := by decide +kernel
theorem dJ1_charAt_3b067_6 : decode cJ1_charAt_3b067 6 = .ok (.aload_n 0, 1) := by decide +kernel
theorem dJ1_charAt_3b067_7 : decode cJ1_charAt_3b067 7 = .ok (.iload_n 1, 1) := by decide +kernel
theorem dJ1_charAt_3b067_8 : decode cJ1_charAt_3b067 8 = .ok (.baload, 1) := by decide +kernel
theorem dJ1_charAt_3b067_9 : decode cJ1_charAt_3b067 9 = .ok (.sipush 255, 3) := by decide +kernel
theorem dJ1_charAt_3b067_12 : decode cJ1_charAt_3b067 12 = .ok (.iand, 1) := by decide +kernel
theorem dJ1_charAt_3b067_13 : decode cJ1_charAt_3b067 13 = .ok (.i2c, 1) := by decide +kernel
theorem dJ1_charAt_3b067_14 : decode cJ1_charAt_3b067 14 = .ok (.ireturn, 1) := by decide +kernel
theorem dJ3_checkIndex_8e157_0 : decode cJ3_checkIndex_8e157 0 = .ok (.iload_n 0, 1) := by decide +kernel
theorem dJ3_checkIndex_8e157_1 : decode cJ3_checkIndex_8e157 1 = .ok (.ifCond .lt 8, 3) := by decide +kernel
theorem dJ3_checkIndex_8e157_4 : decode cJ3_checkIndex_8e157 4 = .ok (.iload_n 0, 1) := by decide +kernel
theorem dJ3_checkIndex_8e157_5 : decode cJ3_checkIndex_8e157 5 = .ok (.iload_n 1, 1) := by decide +kernel
theorem dJ3_checkIndex_8e157_6 : decode cJ3_checkIndex_8e157 6 = .ok (.if_icmp .lt 10, 3) := by decide +kernel
theorem dJ3_checkIndex_8e157_9 : decode cJ3_checkIndex_8e157 9 = .ok (.aload_n 2, 1) := by decide +kernel
theorem dJ3_checkIndex_8e157_10 : decode cJ3_checkIndex_8e157 10 = .ok (.iload_n 0, 1) := by decide +kernel
theorem dJ3_checkIndex_8e157_11 : decode cJ3_checkIndex_8e157 11 = .ok (.iload_n 1, 1) := by decide +kernel
theorem dJ3_checkIndex_8e157_12 : decode cJ3_checkIndex_8e157 12 = .ok (.invokestatic 95, 3) := by decide +kernel
theorem dJ3_checkIndex_8e157_15 : decode cJ3_checkIndex_8e157 15 = .ok (.athrow, 1) := by decide +kernel
theorem dJ3_checkIndex_8e157_16 : decode cJ3_checkIndex_8e157 16 = .ok (.iload_n 0, 1) := by decide +kernel
theorem dJ3_checkIndex_8e157_17 : decode cJ3_checkIndex_8e157 17 = .ok (.ireturn, 1) := by decide +kernel
theorem wY_J0_length_8abf5 : YW yJ0_length_8abf5 cJ0_length_8abf5 1 (some .int) 0 := ⟨tb_i 224 (by decide +kernel) (by decide +kernel), tb_i 50 (by decide +kernel) (by decide +kernel), by decide +kernel⟩
theorem wI_J0_length_8abf5 : Cond.instanceMethod yJ0_length_8abf5 ∈ TB := tb_i 222 (by decide +kernel) (by decide +kernel)
theorem wS_J0_length_8abf5 : Cond.selects yJ0_length_8abf5.cls yJ0_length_8abf5 yJ0_length_8abf5 ∈ TB := tb_i 223 (by decide +kernel) (by decide +kernel)
theorem wY_J0_coder_7d493 : YW yJ0_coder_7d493 cJ0_coder_7d493 1 (some .byte) 0 := ⟨tb_i 228 (by decide +kernel) (by decide +kernel), tb_i 50 (by decide +kernel) (by decide +kernel), by decide +kernel⟩
theorem wI_J0_coder_7d493 : Cond.instanceMethod yJ0_coder_7d493 ∈ TB := tb_i 226 (by decide +kernel) (by decide +kernel)
theorem wS_J0_coder_7d493 : Cond.selects yJ0_coder_7d493.cls yJ0_coder_7d493 yJ0_coder_7d493 ∈ TB := tb_i 227 (by decide +kernel) (by decide +kernel)
theorem wY_J0_isLatin1_aae02 : YW yJ0_isLatin1_aae02 cJ0_isLatin1_aae02 1 (some .boolean) 0 := ⟨tb_i 238 (by decide +kernel) (by decide +kernel), tb_i 50 (by decide +kernel) (by decide +kernel), by decide +kernel⟩
theorem wI_J0_isLatin1_aae02 : Cond.instanceMethod yJ0_isLatin1_aae02 ∈ TB := tb_i 236 (by decide +kernel) (by decide +kernel)
theorem wS_J0_isLatin1_aae02 : Cond.selects yJ0_isLatin1_aae02.cls yJ0_isLatin1_aae02 yJ0_isLatin1_aae02 ∈ TB := tb_i 237 (by decide +kernel) (by decide +kernel)
theorem wY_J0_charAt_5068e : YW yJ0_charAt_5068e cJ0_charAt_5068e 2 (some .char) 1 := ⟨tb_i 234 (by decide +kernel) (by decide +kernel), tb_i 50 (by decide +kernel) (by decide +kernel), by decide +kernel⟩
theorem wI_J0_charAt_5068e : Cond.instanceMethod yJ0_charAt_5068e ∈ TB := tb_i 232 (by decide +kernel) (by decide +kernel)
theorem wS_J0_charAt_5068e : Cond.selects yJ0_charAt_5068e.cls yJ0_charAt_5068e yJ0_charAt_5068e ∈ TB := tb_i 233 (by decide +kernel) (by decide +kernel)
theorem wY_J0_checkIndex_df160 : YW yJ0_checkIndex_df160 cJ0_checkIndex_df160 2 none 2 := ⟨tb_i 244 (by decide +kernel) (by decide +kernel), tb_i 50 (by decide +kernel) (by decide +kernel), by decide +kernel⟩
theorem wT_J0_checkIndex_df160 : Cond.static yJ0_checkIndex_df160 ∈ TB := tb_i 243 (by decide +kernel) (by decide +kernel)
theorem wY_J1_charAt_3b067 : YW yJ1_charAt_3b067 cJ1_charAt_3b067 2 (some .char) 2 := ⟨tb_i 241 (by decide +kernel) (by decide +kernel), tb_i 51 (by decide +kernel) (by decide +kernel), by decide +kernel⟩
theorem wT_J1_charAt_3b067 : Cond.static yJ1_charAt_3b067 ∈ TB := tb_i 240 (by decide +kernel) (by decide +kernel)
theorem wY_J3_checkIndex_8e157 : YW yJ3_checkIndex_8e157 cJ3_checkIndex_8e157 3 (some .int) 3 := ⟨tb_i 249 (by decide +kernel) (by decide +kernel), tb_i 52 (by decide +kernel) (by decide +kernel), by decide +kernel⟩
theorem wT_J3_checkIndex_8e157 : Cond.static yJ3_checkIndex_8e157 ∈ TB := tb_i 248 (by decide +kernel) (by decide +kernel)
theorem wL_J0_335 : Cond.methodLink RJ0 335 yJ0_coder_7d493 ∈ TB := tb_i 225 (by decide +kernel) (by decide +kernel)
theorem wL_J0_492 : Cond.methodLink RJ0 492 yJ0_isLatin1_aae02 ∈ TB := tb_i 235 (by decide +kernel) (by decide +kernel)
theorem wL_J0_495 : Cond.methodLink RJ0 495 yJ1_charAt_3b067 ∈ TB := tb_i 239 (by decide +kernel) (by decide +kernel)
theorem wL_J0_1059 : Cond.methodLink RJ0 1059 yJ3_checkIndex_8e157 ∈ TB := tb_i 247 (by decide +kernel) (by decide +kernel)
theorem wL_J1_9 : Cond.methodLink RJ1 9 yJ0_checkIndex_df160 ∈ TB := tb_i 242 (by decide +kernel) (by decide +kernel)
theorem wL_X6_61 : Cond.methodLink RX6 61 yJ0_length_8abf5 ∈ TB := tb_i 221 (by decide +kernel) (by decide +kernel)
theorem wL_X6_67 : Cond.methodLink RX6 67 yJ0_charAt_5068e ∈ TB := tb_i 231 (by decide +kernel) (by decide +kernel)
theorem wG_J0_9 : Cond.fieldLink RJ0 9 "java/lang/String" "value" "[B" ∈ TB := tb_i 1052 (by decide +kernel) (by decide +kernel)
theorem wG_J0_38 : Cond.fieldLink RJ0 38 "java/lang/String" "COMPACT_STRINGS" "Z" ∈ TB := tb_i 229 (by decide +kernel) (by decide +kernel)
theorem wG_J0_15 : Cond.fieldLink RJ0 15 "java/lang/String" "coder" "B" ∈ TB := tb_i 1053 (by decide +kernel) (by decide +kernel)
theorem wG_J0_1053 : Cond.fieldLink RJ0 1053 "jdk/internal/util/Preconditions" "SIOOBE_FORMATTER" "Ljava/util/function/BiFunction;" ∈ TB := tb_i 245 (by decide +kernel) (by decide +kernel)
def fiB : List Int32 := [103, 52, 59, 103, 51, 59, 103, 53, 59, 104, 48, 44, 51, 44, 48, 59, 104, 49, 44, 55, 44, 48, 59, 104, 50, 44, 50, 44, 49, 59, 104, 50, 44, 52, 44, 49, 59, 104, 51, 44, 57, 44, 50, 59, 119, 48, 44, 53, 59, 119, 49, 44, 54, 59, 102, 50, 59]
def fiT : String := "g4;g3;g5;h0,3,0;h1,7,0;h2,2,1;h2,4,1;h3,9,2;w0,5;w1,6;f2;"
/-- the one text constant, and the two statics that its methods read: cells that nothing here writes -/
def Sk (A : Nat → Prop) (aK aV : Nat) (U : State) (H : Heap) : Prop := vk_S 1 [57] [fiB] (fun _ => aK) (fun _ => aV) A U H ∧ va_Z "java/lang/String" "COMPACT_STRINGS" "Z" (.int 1) A U H ∧ va_Zq "jdk/internal/util/Preconditions" "SIOOBE_FORMATTER" "Ljava/util/function/BiFunction;" A U H
theorem Sk.moved {A : Nat → Prop} {aK aV : Nat} {u U : State} {H : Heap} (hvm : u.vm.Alike U.vm) (h : Sk A aK aV u H) : Sk A aK aV U H := ⟨h.1.moved hvm, h.2.1.moved hvm, h.2.2.moved hvm⟩
theorem Sk.kept {A : Nat → Prop} {aK aV : Nat} {U : State} {H H1 : Heap} (h : Sk A aK aV U H) (hq : ∀ a : Nat, a < H.size → ¬ A a → H1[a]? = H[a]?) : Sk A aK aV U H1 := ⟨h.1.kept hq, h.2.1.kept hq, h.2.2.kept hq⟩
abbrev Ps (A : Nat → Prop) (aK aV : Nat) (avs : List Value) : Array Value → State → Prop := va_Pc avs (fun U => Sk A aK aV U U.heap)
abbrev Qs (r : Option Value) : Array Value → State → Outcome → State → Prop := fun _ st o t => o = .returned r ∧ t.heap = st.heap
def Ms (A : Nat → Prop) (aK aV : Nat) (l : Launch) (y : MethodName) (cc : ByteArray) (maxL : Nat) (ret : Option FieldType) (lev : Nat) (avs : List Value) (r : Option Value) : Prop :=
  Met l y (.code y cc maxL ret :: TB) { frames := lev, cells := 0, slots := 0, locals := 40 * lev } (Ps A aK aV avs) (Qs r) 0 0 (fun _ => False)
theorem Ps_blind {A : Nat → Prop} {aK aV : Nat} {avs : List Value} : FrameBlind (Ps A aK aV avs) := fun a U g mk q => ⟨q.1, Sk.moved (u := U) (U := U.calling g mk a) (Vm.Alike.refl U.vm) q.2⟩
theorem Ms.of {A : Nat → Prop} {aK aV : Nat} {l : Launch} {y : MethodName} {cc : ByteArray} {maxL : Nat} {ret : Option FieldType} {lev : Nat} {avs : List Value} {r : Option Value} (hy : plainName y.cls = true) (hn : (lg_sl avs).length ≤ maxL)
    (body : ∀ p e s m below meth c (ls : Array Slot), p.tables.exec = Jvm.exec → c.code = cc → c.maxLocals = maxL → s.vm.findClass y.cls = some m.cls → (∀ w ∈ TB, w.before avs.toArray s = true) → meth.locks = false → meth.sig.returnType = ret → Sk A aK aV s s.heap → va_S A s.heap s.heap [] → lv_has ls maxL (lv_args 0 avs) →
      W p l e { frames := lev, cells := 0, slots := 0, locals := 40 * lev } s m avs.toArray below meth c s.heap [] 0 0 (MQ below (Qs r) avs.toArray s 0 0 (fun _ => False)) (F0 m 0 ls [])) : Ms A aK aV l y cc maxL ret lev avs r := by
  refine Met.ofW (cc := cc) (maxL := maxL) (ret := ret) hy rfl ?_
  intro p e s m args below meth c s₁ B hml hv
  obtain ⟨rfl, hH⟩ := hv
  have hts := atoms_spec (ws := .code y cc maxL ret :: TB) B.pre
  have hl := lv_entry avs (n := maxL) hn
  rw [lg_entry_eq]
  exact body p e s m below meth c _ B.exec B.bytes hml (findClass_of_methodNamed B.named) (fun w hw => hts w (List.mem_cons_of_mem _ hw)) B.notSynchronized B.returns hH va_S.rf hl
section SS
variable {p : Program} {l : Launch} {e : Env} {R : Room} {s : State} {m : MethodId} {args : Array Value} {below : List Frame} {meth : Method} {c : Code} {H : Heap} {locs : List Loc} {cells slots : Nat} {Q : State → Prop} {A : Nat → Prop} {aK aV : Nat} {cc : ByteArray} {nL pc : Nat} {ls : Array Slot} {own : String} {st rest : List Value}
theorem s_after {r : Option Value} {av : Array Value} (hr : va_Run p l e R s m args below meth c H locs cells slots 0 0 (F0 m pc ls st) rest (Qs r av) (fun _ => False)) (kk : W p l e R s m args below meth c H locs cells slots Q (F0 m (pc + 3) ls (r.toList ++ rest))) : W p l e R s m args below meth c H locs cells slots Q (F0 m pc ls st) := by
  intro T hT X
  obtain ⟨v, st0, t, T', L, g0, X', hL, e1, e2, ⟨q1, q2⟩, hst⟩ := hr T hT X
  cases q1
  have hLn : L = [] := by
    cases L with
    | nil => rfl
    | cons q L => exact (hL q List.mem_cons_self).elim
  subst hLn
  rw [List.append_nil] at X'
  obtain ⟨t2, a1, b1⟩ := kk T' (e1.trans (q2.trans g0)) X'
  exact ⟨t2, hst t2 a1, b1⟩
theorem s_callS {i : Nat} {y : MethodName} {bytes : ByteArray} {maxL' lev : Nat} {rt : Option FieldType} {r : Option Value} (hx : p.tables.exec = Jvm.exec) (hb : c.code = cc) (hml : c.maxLocals = nL) (hown : s.vm.findClass own = some m.cls) (ht : ∀ w ∈ TB, w.before args s = true) (hk : Sk A aK aV s s.heap) (hS : va_S A s.heap H locs) (As : List Value) (hM : Ms A aK aV l y bytes maxL' rt lev As r) (hy : YW y bytes maxL' rt As.length) (hsta : Cond.static y ∈ TB) (hlk : Cond.methodLink own i y ∈ TB) (hls : ls.size = nL)
    (hst : st = As.reverse ++ rest) (hrm : (rest.map fun v => v.category).sum ≤ 8) (hR : lev + 1 ≤ R.frames ∧ 8 + (maxL' + 11) + 40 * lev ≤ R.locals) (hf : cells ≤ R.cells ∧ slots ≤ R.slots) (hd : decode cc pc = .ok (.invokestatic i, 3))
    (kk : W p l e R s m args below meth c H locs cells slots Q (F0 m (pc + 3) ls (r.toList ++ rest))) : W p l e R s m args below meth c H locs cells slots Q (F0 m pc ls st) := by
  refine s_after (va_runS (bytes := bytes) (maxL := maxL') (ret := rt) (Ts := TB) (own := own) (nL := nL) ⟨hx, hb, hml, hown, ht⟩ hM ?_ ⟨Ps_blind, fun U hU hW => ⟨rfl, by show Sk A aK aV U U.heap; rw [hU]; exact (hk.kept hS.2.1).moved hW.alike⟩⟩ rfl rfl hls hst (lv_room hrm) hd hf) kk
  exact ⟨callB_of As.length ht (tb_code hy.1) rfl rfl rfl (ht _ hy.2.1) (ht _ hlk) hy.2.2 hR, ht _ hsta⟩
theorem s_callV {i : Nat} {y : MethodName} {bytes : ByteArray} {maxL' lev : Nat} {rt : Option FieldType} {r : Option Value} (hx : p.tables.exec = Jvm.exec) (hb : c.code = cc) (hml : c.maxLocals = nL) (hown : s.vm.findClass own = some m.cls) (ht : ∀ w ∈ TB, w.before args s = true) (hk : Sk A aK aV s s.heap) (hS : va_S A s.heap H locs) (As : List Value) (hM : Ms A aK aV l y bytes maxL' rt lev (.ref aK :: As) r) (hyc : y.cls = "java/lang/String") (hy : YW y bytes maxL' rt As.length) (hin : Cond.instanceMethod y ∈ TB) (hse : Cond.selects y.cls y y ∈ TB) (hlk : Cond.methodLink own i y ∈ TB) (hls : ls.size = nL)
    (hst : st = As.reverse ++ .ref aK :: rest) (hrm : (rest.map fun v => v.category).sum ≤ 8) (hR : lev + 1 ≤ R.frames ∧ 8 + (maxL' + 11) + 40 * lev ≤ R.locals) (hf : cells ≤ R.cells ∧ slots ≤ R.slots) (hd : decode cc pc = .ok (.invokevirtual i, 3))
    (kk : W p l e R s m args below meth c H locs cells slots Q (F0 m (pc + 3) ls (r.toList ++ rest))) : W p l e R s m args below meth c H locs cells slots Q (F0 m pc ls st) := by
  refine s_after (va_runV (bytes := bytes) (maxL := maxL') (ret := rt) (Ts := TB) (own := own) (C := y.cls) (nL := nL) ⟨hx, hb, hml, hown, ht⟩ hM ?_ ⟨Ps_blind, ?_, fun U hU hW => ⟨rfl, by show Sk A aK aV U U.heap; rw [hU]; exact (hk.kept hS.2.1).moved hW.alike⟩⟩ rfl rfl hls hst (lv_room hrm) hd hf) kk
  · exact ⟨callB_of As.length ht (tb_code hy.1) rfl rfl rfl (ht _ hy.2.1) (ht _ hlk) hy.2.2 hR, ht _ hin, ht _ hse⟩
  · rw [hyc]
    exact vk_recv hk.1 (Nat.lt_succ_self 0) hS
end SS
theorem s_coder {A : Nat → Prop} {aK aV : Nat} {l : Launch} : Ms A aK aV l yJ0_coder_7d493 cJ0_coder_7d493 1 (some .byte) 0 [.ref aK] (some (.int 0)) := by
  refine Ms.of (by decide) (Nat.le_of_ble_eq_true rfl) ?_
  intro p e s m below meth c ls hx hb hml hown ht hlk hr hk hS hl
  have hl : lv_has ls 1 [(0, .ref aK)] := hl
  refine va_gets hx hb hk.2.1 hS hown (ht _ wG_J0_38) (fun _ h => h) dJ0_coder_7d493_0 ?_
  refine lv_if_eq (tgt := 13) hx hb dJ0_coder_7d493_3 (by decide) (fun c1 => absurd c1 (by decide)) (fun c1 => ?_)
  refine lv_aload_n hx hb dJ0_coder_7d493_6 rfl (lv_at hl 0 rfl) ?_
  refine vk_getf hx hb (hk.1.1 0 (by decide)).2.1 hS hown (ht _ wG_J0_15) (fun _ h => h) dJ0_coder_7d493_7 ?_
  refine lv_goto (tgt := 14) hx hb dJ0_coder_7d493_10 (by decide) ?_
  exact W.zret hx hb hr (by decide) (fun t h1 _ => ⟨rfl, h1⟩) (fun q h => by cases h) dJ0_coder_7d493_14 hlk
theorem s_lat {A : Nat → Prop} {aK aV : Nat} {l : Launch} : Ms A aK aV l yJ0_isLatin1_aae02 cJ0_isLatin1_aae02 1 (some .boolean) 0 [.ref aK] (some (.int 1)) := by
  refine Ms.of (by decide) (Nat.le_of_ble_eq_true rfl) ?_
  intro p e s m below meth c ls hx hb hml hown ht hlk hr hk hS hl
  have hl : lv_has ls 1 [(0, .ref aK)] := hl
  refine va_gets hx hb hk.2.1 hS hown (ht _ wG_J0_38) (fun _ h => h) dJ0_isLatin1_aae02_0 ?_
  refine lv_if_eq (tgt := 17) hx hb dJ0_isLatin1_aae02_3 (by decide) (fun c1 => absurd c1 (by decide)) (fun c1 => ?_)
  refine lv_aload_n hx hb dJ0_isLatin1_aae02_6 rfl (lv_at hl 0 rfl) ?_
  refine vk_getf hx hb (hk.1.1 0 (by decide)).2.1 hS hown (ht _ wG_J0_15) (fun _ h => h) dJ0_isLatin1_aae02_7 ?_
  refine lv_if_ne (tgt := 17) hx hb dJ0_isLatin1_aae02_10 (by decide) (fun c1 => absurd rfl c1) (fun c1 => ?_)
  refine lv_iconst (v := 1) hx hb dJ0_isLatin1_aae02_13 (by decide) ?_
  refine lv_goto (tgt := 18) hx hb dJ0_isLatin1_aae02_14 (by decide) ?_
  exact W.zret hx hb hr (by decide) (fun t h1 _ => ⟨rfl, h1⟩) (fun q h => by cases h) dJ0_isLatin1_aae02_18 hlk
theorem s_len {A : Nat → Prop} {aK aV : Nat} {l : Launch} : Ms A aK aV l yJ0_length_8abf5 cJ0_length_8abf5 1 (some .int) 1 [.ref aK] (some (.int 57)) := by
  refine Ms.of (by decide) (Nat.le_of_ble_eq_true rfl) ?_
  intro p e s m below meth c ls hx hb hml hown ht hlk hr hk hS hl
  have hl : lv_has ls 1 [(0, .ref aK)] := hl
  refine lv_aload_n hx hb dJ0_length_8abf5_0 rfl (lv_at hl 0 rfl) ?_
  refine vk_getf hx hb (hk.1.1 0 (by decide)).2.2.1 hS hown (ht _ wG_J0_9) (fun _ h => h) dJ0_length_8abf5_1 ?_
  refine va_tlen hx hb (hk.1.1 0 (by decide)).2.2.2 hS (v := 57) (by decide) dJ0_length_8abf5_4 ?_
  refine lv_aload_n hx hb dJ0_length_8abf5_5 rfl (lv_at hl 0 rfl) ?_
  refine s_callV hx hb hml hown ht hk hS (rest := [.int 57]) [] s_coder rfl wY_J0_coder_7d493 wI_J0_coder_7d493 wS_J0_coder_7d493 wL_J0_335 hl.1 rfl (by decide) ⟨Nat.le_of_ble_eq_true rfl, Nat.le_of_ble_eq_true rfl⟩ ⟨Nat.le_refl _, Nat.le_refl _⟩ dJ0_length_8abf5_6 ?_
  refine lv_ishr (x := 57) (y := 0) hx hb dJ0_length_8abf5_9 ?_
  have h57 : (57 : Int32) >>> ((0 : Int32) &&& 31) = 57 := by decide
  rw [h57]
  exact W.iret hx hb hr (fun t h1 _ => ⟨rfl, h1⟩) (fun q h => by cases h) dJ0_length_8abf5_10 hlk
theorem s_pre {A : Nat → Prop} {aK aV : Nat} {l : Launch} {i n : Int32} {v : Value} (hv : v = .null ∨ ∃ a, v = .ref a) (h0 : ¬ i < 0) (h1 : i < n) : Ms A aK aV l yJ3_checkIndex_8e157 cJ3_checkIndex_8e157 3 (some .int) 0 [.int i, .int n, v] (some (.int i)) := by
  refine Ms.of (by decide) (by rcases hv with rfl | ⟨a, rfl⟩ <;> exact Nat.le_of_ble_eq_true rfl) ?_
  intro p e s m below meth c ls hx hb hml hown ht hlk hr hk hS hl
  have hl : lv_has ls 3 [(0, .int i), (1, .int n)] := by
    rcases hv with rfl | ⟨a, rfl⟩ <;> exact lv_sub hl [0, 1] rfl
  refine lv_iload_n hx hb dJ3_checkIndex_8e157_0 rfl (lv_at hl 0 rfl) ?_
  refine lv_if_lt (tgt := 9) hx hb dJ3_checkIndex_8e157_1 (by decide) (fun c1 => absurd c1 h0) (fun c1 => ?_)
  refine lv_iload_n hx hb dJ3_checkIndex_8e157_4 rfl (lv_at hl 0 rfl) ?_
  refine lv_iload_n hx hb dJ3_checkIndex_8e157_5 rfl (lv_at hl 1 rfl) ?_
  refine lv_icmp_lt (tgt := 16) hx hb dJ3_checkIndex_8e157_6 (by decide) (fun c1 => ?_) (fun c1 => absurd h1 c1)
  refine lv_iload_n hx hb dJ3_checkIndex_8e157_16 rfl (lv_at hl 0 rfl) ?_
  exact W.iret hx hb hr (fun t h1 _ => ⟨rfl, h1⟩) (fun q h => by cases h) dJ3_checkIndex_8e157_17 hlk
theorem s_chk {A : Nat → Prop} {aK aV : Nat} {l : Launch} {i n : Int32} (h0 : ¬ i < 0) (h1 : i < n) : Ms A aK aV l yJ0_checkIndex_df160 cJ0_checkIndex_df160 2 none 1 [.int i, .int n] none := by
  refine Ms.of (by decide) (Nat.le_of_ble_eq_true rfl) ?_
  intro p e s m below meth c ls hx hb hml hown ht hlk hr hk hS hl
  have hl : lv_has ls 2 [(0, .int i), (1, .int n)] := hl
  refine lv_iload_n hx hb dJ0_checkIndex_df160_0 rfl (lv_at hl 0 rfl) ?_
  refine lv_iload_n hx hb dJ0_checkIndex_df160_1 rfl (lv_at hl 1 rfl) ?_
  have key : ∀ v : Value, (v = .null ∨ ∃ a, v = .ref a) → va_Z "jdk/internal/util/Preconditions" "SIOOBE_FORMATTER" "Ljava/util/function/BiFunction;" v A s s.heap → W p l e { frames := 1, cells := 0, slots := 0, locals := 40 * 1 } s m #[.int i, .int n] below meth c s.heap [] 0 0 (MQ below (Qs none) #[.int i, .int n] s 0 0 (fun _ => False)) (F0 m 2 ls [.int n, .int i]) := by
    intro v hv hZ
    refine va_gets hx hb hZ hS hown (ht _ wG_J0_1053) (fun _ h => h) dJ0_checkIndex_df160_2 ?_
    refine s_callS hx hb hml hown ht hk hS (rest := []) [.int i, .int n, v] (s_pre hv h0 h1) wY_J3_checkIndex_8e157 wT_J3_checkIndex_8e157 wL_J0_1059 hl.1 rfl (by decide) ⟨Nat.le_of_ble_eq_true rfl, Nat.le_of_ble_eq_true rfl⟩ ⟨Nat.le_refl _, Nat.le_refl _⟩ dJ0_checkIndex_df160_5 ?_
    refine lv_pop (va := .int i) hx hb dJ0_checkIndex_df160_8 rfl ?_
    exact W.vret hx hb hr (fun t h1 _ => ⟨rfl, h1⟩) (fun q h => by cases h) dJ0_checkIndex_df160_9 hlk
  rcases hk.2.2 with hZ | ⟨t, hZ⟩
  · exact key .null (Or.inl rfl) hZ
  · exact key (.ref t) (Or.inr ⟨t, rfl⟩) hZ
theorem s_byte : ∀ j, j < 57 → (((fiB.getD j 0) &&& 255).toUInt32 % 65536).toInt32 = fiB.getD j 0 ∧ narrow .char (.int (fiB.getD j 0)) = .int (fiB.getD j 0) := by decide +kernel
theorem s_l1c {A : Nat → Prop} {aK aV : Nat} {l : Launch} {i : Int32} (h0 : ¬ i < 0) (h1 : i < 57) (hi : vp_in i 57) : Ms A aK aV l yJ1_charAt_3b067 cJ1_charAt_3b067 2 (some .char) 2 [.ref aV, .int i] (some (.int (fiB.getD i.toNatClampNeg 0))) := by
  refine Ms.of (by decide) (Nat.le_of_ble_eq_true rfl) ?_
  intro p e s m below meth c ls hx hb hml hown ht hlk hr hk hS hl
  have hl : lv_has ls 2 [(0, .ref aV), (1, .int i)] := hl
  have hj : i.toNatClampNeg < 57 := Nat.not_le.mp fun q => hi (Or.inr q)
  refine lv_iload_n hx hb dJ1_charAt_3b067_0 rfl (lv_at hl 1 rfl) ?_
  refine lv_aload_n hx hb dJ1_charAt_3b067_1 rfl (lv_at hl 0 rfl) ?_
  refine va_tlen hx hb (hk.1.1 0 (by decide)).2.2.2 hS (v := 57) (by decide) dJ1_charAt_3b067_2 ?_
  refine s_callS hx hb hml hown ht hk hS (rest := []) [.int i, .int 57] (s_chk h0 h1) wY_J0_checkIndex_df160 wT_J0_checkIndex_df160 wL_J1_9 hl.1 rfl (by decide) ⟨Nat.le_of_ble_eq_true rfl, Nat.le_of_ble_eq_true rfl⟩ ⟨Nat.le_refl _, Nat.le_refl _⟩ dJ1_charAt_3b067_3 ?_
  refine lv_aload_n hx hb dJ1_charAt_3b067_6 rfl (lv_at hl 0 rfl) ?_
  refine lv_iload_n hx hb dJ1_charAt_3b067_7 rfl (lv_at hl 1 rfl) ?_
  refine va_tb hx hb (hk.1.1 0 (by decide)).2.2.2 hS hi (v := .int (fiB.getD i.toNatClampNeg 0)) rfl dJ1_charAt_3b067_8 ?_
  refine lv_sipush (v := 255) hx hb dJ1_charAt_3b067_9 (by decide) ?_
  refine lv_iand hx hb dJ1_charAt_3b067_12 ?_
  refine lv_i2c hx hb dJ1_charAt_3b067_13 (s_byte _ hj).1 ?_
  exact W.zret hx hb hr (s_byte _ hj).2 (fun t h1 _ => ⟨rfl, h1⟩) (fun q h => by cases h) dJ1_charAt_3b067_14 hlk
theorem s_chr {A : Nat → Prop} {aK aV : Nat} {l : Launch} {i : Int32} (h0 : ¬ i < 0) (h1 : i < 57) (hi : vp_in i 57) : Ms A aK aV l yJ0_charAt_5068e cJ0_charAt_5068e 2 (some .char) 3 [.ref aK, .int i] (some (.int (fiB.getD i.toNatClampNeg 0))) := by
  refine Ms.of (by decide) (Nat.le_of_ble_eq_true rfl) ?_
  intro p e s m below meth c ls hx hb hml hown ht hlk hr hk hS hl
  have hl : lv_has ls 2 [(0, .ref aK), (1, .int i)] := hl
  have hj : i.toNatClampNeg < 57 := Nat.not_le.mp fun q => hi (Or.inr q)
  refine lv_aload_n hx hb dJ0_charAt_5068e_0 rfl (lv_at hl 0 rfl) ?_
  refine s_callV hx hb hml hown ht hk hS (rest := []) [] s_lat rfl wY_J0_isLatin1_aae02 wI_J0_isLatin1_aae02 wS_J0_isLatin1_aae02 wL_J0_492 hl.1 rfl (by decide) ⟨Nat.le_of_ble_eq_true rfl, Nat.le_of_ble_eq_true rfl⟩ ⟨Nat.le_refl _, Nat.le_refl _⟩ dJ0_charAt_5068e_1 ?_
  refine lv_if_eq (x := 1) (tgt := 16) hx hb dJ0_charAt_5068e_4 (by decide) (fun c1 => absurd c1 (by decide)) (fun c1 => ?_)
  refine lv_aload_n hx hb dJ0_charAt_5068e_7 rfl (lv_at hl 0 rfl) ?_
  refine vk_getf hx hb (hk.1.1 0 (by decide)).2.2.1 hS hown (ht _ wG_J0_9) (fun _ h => h) dJ0_charAt_5068e_8 ?_
  refine lv_iload_n hx hb dJ0_charAt_5068e_11 rfl (lv_at hl 1 rfl) ?_
  refine s_callS hx hb hml hown ht hk hS (rest := []) [.ref aV, .int i] (s_l1c h0 h1 hi) wY_J1_charAt_3b067 wT_J1_charAt_3b067 wL_J0_495 hl.1 rfl (by decide) ⟨Nat.le_of_ble_eq_true rfl, Nat.le_of_ble_eq_true rfl⟩ ⟨Nat.le_refl _, Nat.le_refl _⟩ dJ0_charAt_5068e_12 ?_
  exact W.zret hx hb hr (s_byte _ hj).2 (fun t h1 _ => ⟨rfl, h1⟩) (fun q h => by cases h) dJ0_charAt_5068e_15 hlk
section SX
variable {G : Gm} {p : Program} {l : Launch} {e : Env} {R : Room} {s : State} {m : MethodId} {args : Array Value} {below : List Frame} {meth : Method} {c : Code} {cc : ByteArray} {nL : Nat} {own : String} {ret : Option FieldType} {nm : String} {Q : State → Prop} {cells slots pc : Nat} {lv : List (Nat × Value)} {st rest : List Value} {μ : Mu} {aK aV : Nat}
theorem x_ldcS {i : Nat} {tx : String} (hR : vk_R own i tx aK s) (hd : decode cc pc = .ok (.ldc i, 2)) (k : Lt G p l e R s m args below meth c cc nL own ret nm Q cells slots (pc + 2) lv (.ref aK :: st) μ) : Lt G p l e R s m args below meth c cc nL own ret nm Q cells slots pc lv st μ := fun C z H L ls h1 h2 h3 => va_ldcS C.1 C.2.1 C.2.2.2.1 hR hd (k C z H L ls h1 h2 h3)
theorem x_sLen {i : Nat} (hk : Sk (fA G) aK aV s s.heap) (hlk : Cond.methodLink own i yJ0_length_8abf5 ∈ TB) (hrm : (st.map fun v => v.category).sum ≤ 8) (hR : 2 ≤ R.frames ∧ 60 ≤ R.locals) (hf : cells ≤ R.cells ∧ slots ≤ R.slots) (hd : decode cc pc = .ok (.invokevirtual i, 3)) (k : Lt G p l e R s m args below meth c cc nL own ret nm Q cells slots (pc + 3) lv (.int 57 :: st) μ) : Lt G p l e R s m args below meth c cc nL own ret nm Q cells slots pc lv (.ref aK :: st) μ := fun C z H L ls h1 h2 h3 =>
  s_callV C.1 C.2.1 C.2.2.1 C.2.2.2.1 C.2.2.2.2.1 hk h2 (rest := st) [] s_len rfl wY_J0_length_8abf5 wI_J0_length_8abf5 wS_J0_length_8abf5 hlk h3.1 rfl hrm ⟨hR.1, by have := hR.2; omega⟩ hf hd (k C z H L ls h1 h2 h3)
theorem x_sChr {j : Nat} {i : Int32} (hi : vp_in i 57) (hi0 : ¬ i < 0) (hi1 : i < 57) (hk : Sk (fA G) aK aV s s.heap) (hlk : Cond.methodLink own j yJ0_charAt_5068e ∈ TB) (hrm : (st.map fun v => v.category).sum ≤ 8) (hR : 4 ≤ R.frames ∧ 141 ≤ R.locals) (hf : cells ≤ R.cells ∧ slots ≤ R.slots) (hd : decode cc pc = .ok (.invokevirtual j, 3)) (k : Lt G p l e R s m args below meth c cc nL own ret nm Q cells slots (pc + 3) lv (.int (fiB.getD i.toNatClampNeg 0) :: st) μ) : Lt G p l e R s m args below meth c cc nL own ret nm Q cells slots pc lv (.int i :: .ref aK :: st) μ := fun C z H L ls h1 h2 h3 =>
  s_callV C.1 C.2.1 C.2.2.1 C.2.2.2.1 C.2.2.2.2.1 hk h2 (rest := st) [.int i] (s_chr hi0 hi1 hi) rfl wY_J0_charAt_5068e wI_J0_charAt_5068e wS_J0_charAt_5068e hlk h3.1 rfl hrm ⟨hR.1, by have := hR.2; omega⟩ hf hd (k C z H L ls h1 h2 h3)
end SX
