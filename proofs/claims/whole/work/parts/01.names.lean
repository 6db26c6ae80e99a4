/-- a private method of a class that the tables say can be made, by its rows of tables_1 -/
def lw_okq (q : MethodName × Nat) : Prop := (q.1.cls ≠ "java/lang/invoke/MethodHandle" ∧ q.1.cls ≠ "java/lang/invoke/VarHandle") ∧ Cond.instantiable q.1.cls q.2 ∈ tables_1 ∧ Cond.privateMethod q.1 ∈ tables_1 ∧ Cond.instanceMethod q.1 ∈ tables_1
theorem lw_p0 : lw_okq (⟨"HourGreen$Script", "readItem", "(I)I"⟩, 3) := ⟨⟨by decide +kernel, by decide +kernel⟩, List.mem_of_getElem? (i := 24) (by decide +kernel), List.mem_of_getElem? (i := 238) (by decide +kernel), List.mem_of_getElem? (i := 239) (by decide +kernel)⟩
theorem lw_p1 : lw_okq (⟨"HourGreen$Script", "letterAt", "(I)C"⟩, 3) := ⟨⟨by decide +kernel, by decide +kernel⟩, List.mem_of_getElem? (i := 24) (by decide +kernel), List.mem_of_getElem? (i := 242) (by decide +kernel), List.mem_of_getElem? (i := 243) (by decide +kernel)⟩
theorem lw_p2 : lw_okq (⟨"HourGreen$Script", "figuresAt", "(I)I"⟩, 3) := ⟨⟨by decide +kernel, by decide +kernel⟩, List.mem_of_getElem? (i := 24) (by decide +kernel), List.mem_of_getElem? (i := 249) (by decide +kernel), List.mem_of_getElem? (i := 250) (by decide +kernel)⟩
theorem lw_p3 : lw_okq (⟨"HourGreen$Script", "numberAt", "(II)I"⟩, 3) := ⟨⟨by decide +kernel, by decide +kernel⟩, List.mem_of_getElem? (i := 24) (by decide +kernel), List.mem_of_getElem? (i := 256) (by decide +kernel), List.mem_of_getElem? (i := 257) (by decide +kernel)⟩
theorem lw_p4 : lw_okq (⟨"HourGreen$Script", "tell", "(LHourGreen$Green;C)Z"⟩, 3) := ⟨⟨by decide +kernel, by decide +kernel⟩, List.mem_of_getElem? (i := 24) (by decide +kernel), List.mem_of_getElem? (i := 260) (by decide +kernel), List.mem_of_getElem? (i := 261) (by decide +kernel)⟩
theorem lw_p5 : lw_okq (⟨"HourGreen$Shelf", "slotAt", "(I)LHourGreen$Green;"⟩, 3) := ⟨⟨by decide +kernel, by decide +kernel⟩, List.mem_of_getElem? (i := 90) (by decide +kernel), List.mem_of_getElem? (i := 436) (by decide +kernel), List.mem_of_getElem? (i := 437) (by decide +kernel)⟩
theorem lw_p6 : lw_okq (⟨"HourGreen$Packing", "lookAhead", "(LHourGreen$Green;)V"⟩, 7) := ⟨⟨by decide +kernel, by decide +kernel⟩, List.mem_of_getElem? (i := 134) (by decide +kernel), List.mem_of_getElem? (i := 526) (by decide +kernel), List.mem_of_getElem? (i := 527) (by decide +kernel)⟩
theorem lw_p7 : lw_okq (⟨"HourGreen$Packing", "choose", "(I)V"⟩, 7) := ⟨⟨by decide +kernel, by decide +kernel⟩, List.mem_of_getElem? (i := 134) (by decide +kernel), List.mem_of_getElem? (i := 537) (by decide +kernel), List.mem_of_getElem? (i := 538) (by decide +kernel)⟩
theorem lw_p8 : lw_okq (⟨"HourGreen$Packing", "hasTwinAhead", "(II)Z"⟩, 7) := ⟨⟨by decide +kernel, by decide +kernel⟩, List.mem_of_getElem? (i := 134) (by decide +kernel), List.mem_of_getElem? (i := 545) (by decide +kernel), List.mem_of_getElem? (i := 546) (by decide +kernel)⟩
theorem lw_p9 : lw_okq (⟨"HourGreen$Odds", "spread", "(II)V"⟩, 3) := ⟨⟨by decide +kernel, by decide +kernel⟩, List.mem_of_getElem? (i := 162) (by decide +kernel), List.mem_of_getElem? (i := 646) (by decide +kernel), List.mem_of_getElem? (i := 647) (by decide +kernel)⟩
theorem lw_p10 : lw_okq (⟨"HourGreenModel", "holds", "()V"⟩, 18) := ⟨⟨by decide +kernel, by decide +kernel⟩, List.mem_of_getElem? (i := 692) (by decide +kernel), List.mem_of_getElem? (i := 698) (by decide +kernel), List.mem_of_getElem? (i := 699) (by decide +kernel)⟩
theorem lw_p11 : lw_okq (⟨"HourGreenModel", "newHour", "(III)V"⟩, 18) := ⟨⟨by decide +kernel, by decide +kernel⟩, List.mem_of_getElem? (i := 692) (by decide +kernel), List.mem_of_getElem? (i := 705) (by decide +kernel), List.mem_of_getElem? (i := 706) (by decide +kernel)⟩
theorem lw_p12 : lw_okq (⟨"HourGreenModel", "lays", "(II)V"⟩, 18) := ⟨⟨by decide +kernel, by decide +kernel⟩, List.mem_of_getElem? (i := 692) (by decide +kernel), List.mem_of_getElem? (i := 709) (by decide +kernel), List.mem_of_getElem? (i := 710) (by decide +kernel)⟩
theorem lw_p13 : lw_okq (⟨"HourGreenModel", "manyIn", "(I)I"⟩, 18) := ⟨⟨by decide +kernel, by decide +kernel⟩, List.mem_of_getElem? (i := 692) (by decide +kernel), List.mem_of_getElem? (i := 713) (by decide +kernel), List.mem_of_getElem? (i := 714) (by decide +kernel)⟩
theorem lw_p14 : lw_okq (⟨"HourGreenModel", "readsAll", "()I"⟩, 18) := ⟨⟨by decide +kernel, by decide +kernel⟩, List.mem_of_getElem? (i := 692) (by decide +kernel), List.mem_of_getElem? (i := 784) (by decide +kernel), List.mem_of_getElem? (i := 785) (by decide +kernel)⟩
theorem lw_p15 : lw_okq (⟨"HourGreenModel", "readsItem", "(I)Z"⟩, 18) := ⟨⟨by decide +kernel, by decide +kernel⟩, List.mem_of_getElem? (i := 692) (by decide +kernel), List.mem_of_getElem? (i := 788) (by decide +kernel), List.mem_of_getElem? (i := 789) (by decide +kernel)⟩
def lw_privs_1 : List (MethodName × Nat) := [(⟨"HourGreen$Script", "readItem", "(I)I"⟩, 3), (⟨"HourGreen$Script", "letterAt", "(I)C"⟩, 3), (⟨"HourGreen$Script", "figuresAt", "(I)I"⟩, 3), (⟨"HourGreen$Script", "numberAt", "(II)I"⟩, 3), (⟨"HourGreen$Script", "tell", "(LHourGreen$Green;C)Z"⟩, 3), (⟨"HourGreen$Shelf", "slotAt", "(I)LHourGreen$Green;"⟩, 3), (⟨"HourGreen$Packing", "lookAhead", "(LHourGreen$Green;)V"⟩, 7), (⟨"HourGreen$Packing", "choose", "(I)V"⟩, 7), (⟨"HourGreen$Packing", "hasTwinAhead", "(II)Z"⟩, 7), (⟨"HourGreen$Odds", "spread", "(II)V"⟩, 3), (⟨"HourGreenModel", "holds", "()V"⟩, 18), (⟨"HourGreenModel", "newHour", "(III)V"⟩, 18), (⟨"HourGreenModel", "lays", "(II)V"⟩, 18), (⟨"HourGreenModel", "manyIn", "(I)I"⟩, 18), (⟨"HourGreenModel", "readsAll", "()I"⟩, 18), (⟨"HourGreenModel", "readsItem", "(I)Z"⟩, 18)]
theorem lw_r1 : ∀ q ∈ lw_privs_1, lw_okq q := List.forall_mem_cons.mpr ⟨lw_p0, List.forall_mem_cons.mpr ⟨lw_p1, List.forall_mem_cons.mpr ⟨lw_p2, List.forall_mem_cons.mpr ⟨lw_p3, List.forall_mem_cons.mpr ⟨lw_p4, List.forall_mem_cons.mpr ⟨lw_p5, List.forall_mem_cons.mpr ⟨lw_p6, List.forall_mem_cons.mpr ⟨lw_p7, List.forall_mem_cons.mpr ⟨lw_p8, List.forall_mem_cons.mpr ⟨lw_p9, List.forall_mem_cons.mpr ⟨lw_p10, List.forall_mem_cons.mpr ⟨lw_p11, List.forall_mem_cons.mpr ⟨lw_p12, List.forall_mem_cons.mpr ⟨lw_p13, List.forall_mem_cons.mpr ⟨lw_p14, List.forall_mem_cons.mpr ⟨lw_p15, fun _ h => absurd h List.not_mem_nil⟩⟩⟩⟩⟩⟩⟩⟩⟩⟩⟩⟩⟩⟩⟩⟩
theorem lw_p16 : lw_okq (⟨"HourGreenModel", "number", "(III)I"⟩, 18) := ⟨⟨by decide +kernel, by decide +kernel⟩, List.mem_of_getElem? (i := 692) (by decide +kernel), List.mem_of_getElem? (i := 792) (by decide +kernel), List.mem_of_getElem? (i := 793) (by decide +kernel)⟩
theorem lw_p17 : lw_okq (⟨"HourGreenModel", "letterAt", "(I)I"⟩, 18) := ⟨⟨by decide +kernel, by decide +kernel⟩, List.mem_of_getElem? (i := 692) (by decide +kernel), List.mem_of_getElem? (i := 796) (by decide +kernel), List.mem_of_getElem? (i := 797) (by decide +kernel)⟩
theorem lw_p18 : lw_okq (⟨"HourGreenModel", "readsHour", "(Z)Z"⟩, 18) := ⟨⟨by decide +kernel, by decide +kernel⟩, List.mem_of_getElem? (i := 692) (by decide +kernel), List.mem_of_getElem? (i := 803) (by decide +kernel), List.mem_of_getElem? (i := 804) (by decide +kernel)⟩
theorem lw_p19 : lw_okq (⟨"HourGreenModel", "isFit", "(IIZ)Z"⟩, 18) := ⟨⟨by decide +kernel, by decide +kernel⟩, List.mem_of_getElem? (i := 692) (by decide +kernel), List.mem_of_getElem? (i := 807) (by decide +kernel), List.mem_of_getElem? (i := 808) (by decide +kernel)⟩
theorem lw_p20 : lw_okq (⟨"HourGreenModel", "topOf", "(I)I"⟩, 18) := ⟨⟨by decide +kernel, by decide +kernel⟩, List.mem_of_getElem? (i := 692) (by decide +kernel), List.mem_of_getElem? (i := 811) (by decide +kernel), List.mem_of_getElem? (i := 812) (by decide +kernel)⟩
theorem lw_p21 : lw_okq (⟨"HourGreenModel", "lying", "(II)I"⟩, 18) := ⟨⟨by decide +kernel, by decide +kernel⟩, List.mem_of_getElem? (i := 692) (by decide +kernel), List.mem_of_getElem? (i := 815) (by decide +kernel), List.mem_of_getElem? (i := 816) (by decide +kernel)⟩
theorem lw_p22 : lw_okq (⟨"HourGreenModel", "kindOf", "(IZ)I"⟩, 18) := ⟨⟨by decide +kernel, by decide +kernel⟩, List.mem_of_getElem? (i := 692) (by decide +kernel), List.mem_of_getElem? (i := 819) (by decide +kernel), List.mem_of_getElem? (i := 820) (by decide +kernel)⟩
theorem lw_p23 : lw_okq (⟨"HourGreenModel", "allNeeds", "(IZ)I"⟩, 18) := ⟨⟨by decide +kernel, by decide +kernel⟩, List.mem_of_getElem? (i := 692) (by decide +kernel), List.mem_of_getElem? (i := 823) (by decide +kernel), List.mem_of_getElem? (i := 824) (by decide +kernel)⟩
theorem lw_p24 : lw_okq (⟨"HourGreenModel", "lets", "()V"⟩, 18) := ⟨⟨by decide +kernel, by decide +kernel⟩, List.mem_of_getElem? (i := 692) (by decide +kernel), List.mem_of_getElem? (i := 830) (by decide +kernel), List.mem_of_getElem? (i := 831) (by decide +kernel)⟩
theorem lw_p25 : lw_okq (⟨"HourGreenModel", "isPlot", "(I)Z"⟩, 18) := ⟨⟨by decide +kernel, by decide +kernel⟩, List.mem_of_getElem? (i := 692) (by decide +kernel), List.mem_of_getElem? (i := 842) (by decide +kernel), List.mem_of_getElem? (i := 843) (by decide +kernel)⟩
theorem lw_p26 : lw_okq (⟨"HourGreenModel", "isHour", "(I)Z"⟩, 18) := ⟨⟨by decide +kernel, by decide +kernel⟩, List.mem_of_getElem? (i := 692) (by decide +kernel), List.mem_of_getElem? (i := 850) (by decide +kernel), List.mem_of_getElem? (i := 851) (by decide +kernel)⟩
theorem lw_p27 : lw_okq (⟨"HourGreenModel", "keeps", "()V"⟩, 18) := ⟨⟨by decide +kernel, by decide +kernel⟩, List.mem_of_getElem? (i := 692) (by decide +kernel), List.mem_of_getElem? (i := 862) (by decide +kernel), List.mem_of_getElem? (i := 863) (by decide +kernel)⟩
theorem lw_p28 : lw_okq (⟨"HourGreenModel", "passes", "(Z)Z"⟩, 18) := ⟨⟨by decide +kernel, by decide +kernel⟩, List.mem_of_getElem? (i := 692) (by decide +kernel), List.mem_of_getElem? (i := 866) (by decide +kernel), List.mem_of_getElem? (i := 867) (by decide +kernel)⟩
theorem lw_p29 : lw_okq (⟨"HourGreenModel", "takes", "(I)I"⟩, 18) := ⟨⟨by decide +kernel, by decide +kernel⟩, List.mem_of_getElem? (i := 692) (by decide +kernel), List.mem_of_getElem? (i := 870) (by decide +kernel), List.mem_of_getElem? (i := 871) (by decide +kernel)⟩
theorem lw_p30 : lw_okq (⟨"HourGreenModel", "mayPut", "(II)Z"⟩, 18) := ⟨⟨by decide +kernel, by decide +kernel⟩, List.mem_of_getElem? (i := 692) (by decide +kernel), List.mem_of_getElem? (i := 878) (by decide +kernel), List.mem_of_getElem? (i := 879) (by decide +kernel)⟩
theorem lw_p31 : lw_okq (⟨"HourGreenModel", "isFrost", "()Z"⟩, 18) := ⟨⟨by decide +kernel, by decide +kernel⟩, List.mem_of_getElem? (i := 692) (by decide +kernel), List.mem_of_getElem? (i := 882) (by decide +kernel), List.mem_of_getElem? (i := 883) (by decide +kernel)⟩
def lw_privs_2 : List (MethodName × Nat) := [(⟨"HourGreenModel", "number", "(III)I"⟩, 18), (⟨"HourGreenModel", "letterAt", "(I)I"⟩, 18), (⟨"HourGreenModel", "readsHour", "(Z)Z"⟩, 18), (⟨"HourGreenModel", "isFit", "(IIZ)Z"⟩, 18), (⟨"HourGreenModel", "topOf", "(I)I"⟩, 18), (⟨"HourGreenModel", "lying", "(II)I"⟩, 18), (⟨"HourGreenModel", "kindOf", "(IZ)I"⟩, 18), (⟨"HourGreenModel", "allNeeds", "(IZ)I"⟩, 18), (⟨"HourGreenModel", "lets", "()V"⟩, 18), (⟨"HourGreenModel", "isPlot", "(I)Z"⟩, 18), (⟨"HourGreenModel", "isHour", "(I)Z"⟩, 18), (⟨"HourGreenModel", "keeps", "()V"⟩, 18), (⟨"HourGreenModel", "passes", "(Z)Z"⟩, 18), (⟨"HourGreenModel", "takes", "(I)I"⟩, 18), (⟨"HourGreenModel", "mayPut", "(II)Z"⟩, 18), (⟨"HourGreenModel", "isFrost", "()Z"⟩, 18)]
theorem lw_r2 : ∀ q ∈ lw_privs_2, lw_okq q := List.forall_mem_cons.mpr ⟨lw_p16, List.forall_mem_cons.mpr ⟨lw_p17, List.forall_mem_cons.mpr ⟨lw_p18, List.forall_mem_cons.mpr ⟨lw_p19, List.forall_mem_cons.mpr ⟨lw_p20, List.forall_mem_cons.mpr ⟨lw_p21, List.forall_mem_cons.mpr ⟨lw_p22, List.forall_mem_cons.mpr ⟨lw_p23, List.forall_mem_cons.mpr ⟨lw_p24, List.forall_mem_cons.mpr ⟨lw_p25, List.forall_mem_cons.mpr ⟨lw_p26, List.forall_mem_cons.mpr ⟨lw_p27, List.forall_mem_cons.mpr ⟨lw_p28, List.forall_mem_cons.mpr ⟨lw_p29, List.forall_mem_cons.mpr ⟨lw_p30, List.forall_mem_cons.mpr ⟨lw_p31, fun _ h => absurd h List.not_mem_nil⟩⟩⟩⟩⟩⟩⟩⟩⟩⟩⟩⟩⟩⟩⟩⟩
theorem lw_p32 : lw_okq (⟨"HourGreenModel", "looks", "()V"⟩, 18) := ⟨⟨by decide +kernel, by decide +kernel⟩, List.mem_of_getElem? (i := 692) (by decide +kernel), List.mem_of_getElem? (i := 902) (by decide +kernel), List.mem_of_getElem? (i := 903) (by decide +kernel)⟩
theorem lw_p33 : lw_okq (⟨"HourGreenModel", "aboveOf", "(I)I"⟩, 18) := ⟨⟨by decide +kernel, by decide +kernel⟩, List.mem_of_getElem? (i := 692) (by decide +kernel), List.mem_of_getElem? (i := 914) (by decide +kernel), List.mem_of_getElem? (i := 915) (by decide +kernel)⟩
theorem lw_p34 : lw_okq (⟨"HourGreenModel", "packed", "()I"⟩, 18) := ⟨⟨by decide +kernel, by decide +kernel⟩, List.mem_of_getElem? (i := 692) (by decide +kernel), List.mem_of_getElem? (i := 922) (by decide +kernel), List.mem_of_getElem? (i := 923) (by decide +kernel)⟩
theorem lw_p35 : lw_okq (⟨"HourGreenModel", "marks", "()V"⟩, 18) := ⟨⟨by decide +kernel, by decide +kernel⟩, List.mem_of_getElem? (i := 692) (by decide +kernel), List.mem_of_getElem? (i := 926) (by decide +kernel), List.mem_of_getElem? (i := 927) (by decide +kernel)⟩
theorem lw_p36 : lw_okq (⟨"HourGreenModel", "lyingAll", "()I"⟩, 18) := ⟨⟨by decide +kernel, by decide +kernel⟩, List.mem_of_getElem? (i := 692) (by decide +kernel), List.mem_of_getElem? (i := 934) (by decide +kernel), List.mem_of_getElem? (i := 935) (by decide +kernel)⟩
theorem lw_p37 : lw_okq (⟨"HourGreenModel", "stirs", "(I)I"⟩, 18) := ⟨⟨by decide +kernel, by decide +kernel⟩, List.mem_of_getElem? (i := 692) (by decide +kernel), List.mem_of_getElem? (i := 938) (by decide +kernel), List.mem_of_getElem? (i := 939) (by decide +kernel)⟩
theorem lw_p38 : lw_okq (⟨"HourGreenModel", "worthOf", "(I)I"⟩, 18) := ⟨⟨by decide +kernel, by decide +kernel⟩, List.mem_of_getElem? (i := 692) (by decide +kernel), List.mem_of_getElem? (i := 952) (by decide +kernel), List.mem_of_getElem? (i := 953) (by decide +kernel)⟩
theorem lw_p39 : lw_okq (⟨"HourGreenModel", "isSo", "()Z"⟩, 18) := ⟨⟨by decide +kernel, by decide +kernel⟩, List.mem_of_getElem? (i := 692) (by decide +kernel), List.mem_of_getElem? (i := 976) (by decide +kernel), List.mem_of_getElem? (i := 977) (by decide +kernel)⟩
theorem lw_p40 : lw_okq (⟨"HourGreenModel", "turn", "(I)V"⟩, 18) := ⟨⟨by decide +kernel, by decide +kernel⟩, List.mem_of_getElem? (i := 692) (by decide +kernel), List.mem_of_getElem? (i := 996) (by decide +kernel), List.mem_of_getElem? (i := 997) (by decide +kernel)⟩
def lw_privs_3 : List (MethodName × Nat) := [(⟨"HourGreenModel", "looks", "()V"⟩, 18), (⟨"HourGreenModel", "aboveOf", "(I)I"⟩, 18), (⟨"HourGreenModel", "packed", "()I"⟩, 18), (⟨"HourGreenModel", "marks", "()V"⟩, 18), (⟨"HourGreenModel", "lyingAll", "()I"⟩, 18), (⟨"HourGreenModel", "stirs", "(I)I"⟩, 18), (⟨"HourGreenModel", "worthOf", "(I)I"⟩, 18), (⟨"HourGreenModel", "isSo", "()Z"⟩, 18), (⟨"HourGreenModel", "turn", "(I)V"⟩, 18)]
theorem lw_r3 : ∀ q ∈ lw_privs_3, lw_okq q := List.forall_mem_cons.mpr ⟨lw_p32, List.forall_mem_cons.mpr ⟨lw_p33, List.forall_mem_cons.mpr ⟨lw_p34, List.forall_mem_cons.mpr ⟨lw_p35, List.forall_mem_cons.mpr ⟨lw_p36, List.forall_mem_cons.mpr ⟨lw_p37, List.forall_mem_cons.mpr ⟨lw_p38, List.forall_mem_cons.mpr ⟨lw_p39, List.forall_mem_cons.mpr ⟨lw_p40, fun _ h => absurd h List.not_mem_nil⟩⟩⟩⟩⟩⟩⟩⟩⟩
def lw_privs : List (MethodName × Nat) := lw_privs_1 ++ (lw_privs_2 ++ (lw_privs_3))
def lw_tbl : List Cond := k2_sels lw_privs ++ tables_1
theorem lw_privs_ok : ∀ q ∈ lw_privs, lw_okq q := by
  show ∀ q ∈ lw_privs_1 ++ (lw_privs_2 ++ (lw_privs_3)), lw_okq q
  exact List.forall_mem_append.mpr ⟨lw_r1, List.forall_mem_append.mpr ⟨lw_r2, lw_r3⟩⟩
def RX0 : String := "HourGreen$Green"
def TX0 : u_T := fun k => match k with
  | 0 => ("HourGreen$Green", "plotCount", "I", false)
  | 1 => ("HourGreen$Green", "hourCount", "I", false)
  | 2 => ("HourGreen$Green", "year", "I", false)
  | 3 => ("HourGreen$Green", "stirred", "I", false)
  | 4 => ("HourGreen$Green", "frost", "J", false)
  | 5 => ("HourGreen$Green", "room", "[I", true)
  | 6 => ("HourGreen$Green", "kind", "[I", true)
  | 7 => ("HourGreen$Green", "worth", "[I", true)
  | 8 => ("HourGreen$Green", "place", "[I", true)
  | _ => ("HourGreen$Green", "depth", "[I", true)
def tyX0 : Nat → FieldType := fun k => match k with
  | 0 => .int
  | 1 => .int
  | 2 => .int
  | 3 => .int
  | 4 => .long
  | 5 => .array .int
  | 6 => .array .int
  | 7 => .array .int
  | 8 => .array .int
  | _ => .array .int
abbrev wsX00 : List Cond := u_ws RX0 TX0 10
theorem nmX0 : ∀ a, a < 10 → ∀ b, b < 10 → a ≠ b → (TX0 a).2.1 ≠ (TX0 b).2.1 := by decide +kernel
theorem tyX0_ok : ∀ k, k < 10 → parseFieldDescriptor (TX0 k).2.2.1 = some (tyX0 k) := by decide +kernel
abbrev cX0_init : ByteArray := prog_2_method_1_code
def yX0_init : MethodName := ⟨RX0, "<init>", "()V"⟩
abbrev cX0_clear : ByteArray := prog_2_method_2_code
def yX0_clear : MethodName := ⟨RX0, "clear", "()V"⟩
abbrev cX0_copyFrom : ByteArray := prog_2_method_3_code
def yX0_copyFrom : MethodName := ⟨RX0, "copyFrom", "(LHourGreen$Green;)V"⟩
abbrev cX0_addPlot : ByteArray := prog_2_method_4_code
def yX0_addPlot : MethodName := ⟨RX0, "addPlot", "(I)Z"⟩
abbrev cX0_addHour : ByteArray := prog_2_method_5_code
def yX0_addHour : MethodName := ⟨RX0, "addHour", "(II)Z"⟩
abbrev cX0_addLyingHour : ByteArray := prog_2_method_6_code
def yX0_addLyingHour : MethodName := ⟨RX0, "addLyingHour", "(III)Z"⟩
abbrev cX0_addFrost : ByteArray := prog_2_method_7_code
def yX0_addFrost : MethodName := ⟨RX0, "addFrost", "(I)Z"⟩
abbrev cX0_hasPlot : ByteArray := prog_2_method_8_code
def yX0_hasPlot : MethodName := ⟨RX0, "hasPlot", "(I)Z"⟩
abbrev cX0_hasHour : ByteArray := prog_2_method_9_code
def yX0_hasHour : MethodName := ⟨RX0, "hasHour", "(I)Z"⟩
abbrev cX0_roomOf : ByteArray := prog_2_method_10_code
def yX0_roomOf : MethodName := ⟨RX0, "roomOf", "(I)I"⟩
abbrev cX0_kindOf : ByteArray := prog_2_method_11_code
def yX0_kindOf : MethodName := ⟨RX0, "kindOf", "(I)I"⟩
abbrev cX0_worthOf : ByteArray := prog_2_method_12_code
def yX0_worthOf : MethodName := ⟨RX0, "worthOf", "(I)I"⟩
abbrev cX0_placeOf : ByteArray := prog_2_method_13_code
def yX0_placeOf : MethodName := ⟨RX0, "placeOf", "(I)I"⟩
abbrev cX0_depthOf : ByteArray := prog_2_method_14_code
def yX0_depthOf : MethodName := ⟨RX0, "depthOf", "(I)I"⟩
abbrev cX0_lies : ByteArray := prog_2_method_15_code
def yX0_lies : MethodName := ⟨RX0, "lies", "(I)Z"⟩
abbrev cX0_isFrost : ByteArray := prog_2_method_16_code
def yX0_isFrost : MethodName := ⟨RX0, "isFrost", "()Z"⟩
abbrev cX0_heightOf : ByteArray := prog_2_method_17_code
def yX0_heightOf : MethodName := ⟨RX0, "heightOf", "(I)I"⟩
abbrev cX0_hourAt : ByteArray := prog_2_method_18_code
def yX0_hourAt : MethodName := ⟨RX0, "hourAt", "(II)I"⟩
abbrev cX0_topOf : ByteArray := prog_2_method_19_code
def yX0_topOf : MethodName := ⟨RX0, "topOf", "(I)I"⟩
abbrev cX0_needAbove : ByteArray := prog_2_method_20_code
def yX0_needAbove : MethodName := ⟨RX0, "needAbove", "(II)I"⟩
abbrev cX0_needOf : ByteArray := prog_2_method_21_code
def yX0_needOf : MethodName := ⟨RX0, "needOf", "(I)I"⟩
abbrev cX0_freeIn : ByteArray := prog_2_method_22_code
def yX0_freeIn : MethodName := ⟨RX0, "freeIn", "(I)I"⟩
abbrev cX0_hasRoomFor : ByteArray := prog_2_method_23_code
def yX0_hasRoomFor : MethodName := ⟨RX0, "hasRoomFor", "(II)Z"⟩
abbrev cX0_canBePutIn : ByteArray := prog_2_method_24_code
def yX0_canBePutIn : MethodName := ⟨RX0, "canBePutIn", "(II)Z"⟩
abbrev cX0_setOnTop : ByteArray := prog_2_method_25_code
def yX0_setOnTop : MethodName := ⟨RX0, "setOnTop", "(II)V"⟩
abbrev cX0_setKind : ByteArray := prog_2_method_26_code
def yX0_setKind : MethodName := ⟨RX0, "setKind", "(II)V"⟩
abbrev cX0_deepen : ByteArray := prog_2_method_27_code
def yX0_deepen : MethodName := ⟨RX0, "deepen", "(I)V"⟩
abbrev cX0_isAbove : ByteArray := prog_2_method_28_code
def yX0_isAbove : MethodName := ⟨RX0, "isAbove", "(II)Z"⟩
abbrev cX0_bitsAbove : ByteArray := prog_2_method_29_code
def yX0_bitsAbove : MethodName := ⟨RX0, "bitsAbove", "(I)I"⟩
abbrev cX0_takeUp : ByteArray := prog_2_method_30_code
def yX0_takeUp : MethodName := ⟨RX0, "takeUp", "(I)I"⟩
abbrev cX0_isLoose : ByteArray := prog_2_method_31_code
def yX0_isLoose : MethodName := ⟨RX0, "isLoose", "(I)Z"⟩
abbrev cX0_rabbitPlot : ByteArray := prog_2_method_32_code
def yX0_rabbitPlot : MethodName := ⟨RX0, "rabbitPlot", "(I)I"⟩
abbrev cX0_passYears : ByteArray := prog_2_method_33_code
def yX0_passYears : MethodName := ⟨RX0, "passYears", "(I)I"⟩
abbrev cX0_visitsTo : ByteArray := prog_2_method_34_code
def yX0_visitsTo : MethodName := ⟨RX0, "visitsTo", "(II)I"⟩
abbrev cX0_throwsBorneBy : ByteArray := prog_2_method_35_code
def yX0_throwsBorneBy : MethodName := ⟨RX0, "throwsBorneBy", "(I)I"⟩
abbrev cX0_actByDraw : ByteArray := prog_2_method_36_code
def yX0_actByDraw : MethodName := ⟨RX0, "actByDraw", "(I)V"⟩
abbrev cX0_lyingCount : ByteArray := prog_2_method_37_code
def yX0_lyingCount : MethodName := ⟨RX0, "lyingCount", "()I"⟩
abbrev cX0_lyingWorth : ByteArray := prog_2_method_38_code
def yX0_lyingWorth : MethodName := ⟨RX0, "lyingWorth", "()I"⟩
abbrev cX0_setCount : ByteArray := prog_2_method_39_code
def yX0_setCount : MethodName := ⟨RX0, "setCount", "()I"⟩
abbrev cX0_allLie : ByteArray := prog_2_method_40_code
def yX0_allLie : MethodName := ⟨RX0, "allLie", "(I)Z"⟩
abbrev cX0_worthOfSet : ByteArray := prog_2_method_41_code
def yX0_worthOfSet : MethodName := ⟨RX0, "worthOfSet", "(I)I"⟩
abbrev cX0_stirOf : ByteArray := prog_2_method_42_code
def yX0_stirOf : MethodName := ⟨RX0, "stirOf", "(I)I"⟩
abbrev cX0_cheapestSet : ByteArray := prog_2_method_43_code
def yX0_cheapestSet : MethodName := ⟨RX0, "cheapestSet", "(I)I"⟩
def RX1 : String := "HourGreen$Odds"
def TX1 : u_T := fun k => match k with
  | 0 => ("HourGreen$Odds", "upper", "I", false)
  | 1 => ("HourGreen$Odds", "lower", "I", false)
  | _ => ("HourGreen$Odds", "cases", "[I", true)
def tyX1 : Nat → FieldType := fun k => match k with
  | 0 => .int
  | 1 => .int
  | _ => .array .int
abbrev wsX10 : List Cond := u_ws RX1 TX1 3
theorem nmX1 : ∀ a, a < 3 → ∀ b, b < 3 → a ≠ b → (TX1 a).2.1 ≠ (TX1 b).2.1 := by decide +kernel
theorem tyX1_ok : ∀ k, k < 3 → parseFieldDescriptor (TX1 k).2.2.1 = some (tyX1 k) := by decide +kernel
abbrev cX1_init : ByteArray := prog_3_method_1_code
def yX1_init : MethodName := ⟨RX1, "<init>", "()V"⟩
abbrev cX1_reckon : ByteArray := prog_3_method_2_code
def yX1_reckon : MethodName := ⟨RX1, "reckon", "(III)V"⟩
abbrev cX1_spread : ByteArray := prog_3_method_3_code
def yX1_spread : MethodName := ⟨RX1, "spread", "(II)V"⟩
abbrev cX1_commonDivisor : ByteArray := prog_3_method_4_code
def yX1_commonDivisor : MethodName := ⟨RX1, "commonDivisor", "(II)I"⟩
def RX2 : String := "HourGreen$Packing"
def TX2 : u_T := fun k => match k with
  | 0 => ("HourGreen$Packing", "best", "I", false)
  | 1 => ("HourGreen$Packing", "free", "[I", true)
  | 2 => ("HourGreen$Packing", "poorOnTop", "[Z", true)
  | 3 => ("HourGreen$Packing", "waiting", "[I", true)
  | 4 => ("HourGreen$Packing", "reach", "[I", true)
  | 5 => ("HourGreen$Packing", "tried", "[I", true)
  | _ => ("HourGreen$Packing", "chosen", "[I", true)
def tyX2 : Nat → FieldType := fun k => match k with
  | 0 => .int
  | 1 => .array .int
  | 2 => .array .boolean
  | 3 => .array .int
  | 4 => .array .int
  | 5 => .array .int
  | _ => .array .int
abbrev wsX20 : List Cond := u_ws RX2 TX2 7
theorem nmX2 : ∀ a, a < 7 → ∀ b, b < 7 → a ≠ b → (TX2 a).2.1 ≠ (TX2 b).2.1 := by decide +kernel
theorem tyX2_ok : ∀ k, k < 7 → parseFieldDescriptor (TX2 k).2.2.1 = some (tyX2 k) := by decide +kernel
abbrev cX2_init : ByteArray := prog_4_method_1_code
def yX2_init : MethodName := ⟨RX2, "<init>", "()V"⟩
abbrev cX2_mostOf : ByteArray := prog_4_method_2_code
def yX2_mostOf : MethodName := ⟨RX2, "mostOf", "(LHourGreen$Green;I)I"⟩
abbrev cX2_lookAhead : ByteArray := prog_4_method_3_code
def yX2_lookAhead : MethodName := ⟨RX2, "lookAhead", "(LHourGreen$Green;)V"⟩
abbrev cX2_placeOf : ByteArray := prog_4_method_4_code
def yX2_placeOf : MethodName := ⟨RX2, "placeOf", "(I)I"⟩
abbrev cX2_tryFrom : ByteArray := prog_4_method_5_code
def yX2_tryFrom : MethodName := ⟨RX2, "tryFrom", "(LHourGreen$Packing;LHourGreen$Green;II)V"⟩
abbrev cX2_tryIn : ByteArray := prog_4_method_6_code
def yX2_tryIn : MethodName := ⟨RX2, "tryIn", "(LHourGreen$Packing;LHourGreen$Green;III)V"⟩
abbrev cX2_hasTwinAhead : ByteArray := prog_4_method_7_code
def yX2_hasTwinAhead : MethodName := ⟨RX2, "hasTwinAhead", "(II)Z"⟩
abbrev cX2_choose : ByteArray := prog_4_method_8_code
def yX2_choose : MethodName := ⟨RX2, "choose", "(I)V"⟩
def RX3 : String := "HourGreen$Script"
def TX3 : u_T := fun k => match k with
  | 0 => ("HourGreen$Script", "length", "I", false)
  | 1 => ("HourGreen$Script", "letters", "[C", true)
  | _ => ("HourGreen$Script", "numbers", "[I", true)
def tyX3 : Nat → FieldType := fun k => match k with
  | 0 => .int
  | 1 => .array .char
  | _ => .array .int
abbrev wsX30 : List Cond := u_ws RX3 TX3 3
theorem nmX3 : ∀ a, a < 3 → ∀ b, b < 3 → a ≠ b → (TX3 a).2.1 ≠ (TX3 b).2.1 := by decide +kernel
theorem tyX3_ok : ∀ k, k < 3 → parseFieldDescriptor (TX3 k).2.2.1 = some (tyX3 k) := by decide +kernel
abbrev cX3_init : ByteArray := prog_5_method_1_code
def yX3_init : MethodName := ⟨RX3, "<init>", "()V"⟩
abbrev cX3_add : ByteArray := prog_5_method_2_code
def yX3_add : MethodName := ⟨RX3, "add", "(I)Z"⟩
abbrev cX3_empty : ByteArray := prog_5_method_3_code
def yX3_empty : MethodName := ⟨RX3, "empty", "()I"⟩
abbrev cX3_readInto : ByteArray := prog_5_method_4_code
def yX3_readInto : MethodName := ⟨RX3, "readInto", "(LHourGreen$Green;)I"⟩
abbrev cX3_letterAt : ByteArray := prog_5_method_5_code
def yX3_letterAt : MethodName := ⟨RX3, "letterAt", "(I)C"⟩
abbrev cX3_readItem : ByteArray := prog_5_method_6_code
def yX3_readItem : MethodName := ⟨RX3, "readItem", "(I)I"⟩
abbrev cX3_numbersOf : ByteArray := prog_5_method_7_code
def yX3_numbersOf : MethodName := ⟨RX3, "numbersOf", "(C)I"⟩
abbrev cX3_figuresAt : ByteArray := prog_5_method_8_code
def yX3_figuresAt : MethodName := ⟨RX3, "figuresAt", "(I)I"⟩
abbrev cX3_isFigure : ByteArray := prog_5_method_9_code
def yX3_isFigure : MethodName := ⟨RX3, "isFigure", "(C)Z"⟩
abbrev cX3_numberAt : ByteArray := prog_5_method_10_code
def yX3_numberAt : MethodName := ⟨RX3, "numberAt", "(II)I"⟩
abbrev cX3_tell : ByteArray := prog_5_method_11_code
def yX3_tell : MethodName := ⟨RX3, "tell", "(LHourGreen$Green;C)Z"⟩
def RX4 : String := "HourGreen$Shelf"
def TX4 : u_T := fun k => match k with
  | 0 => ("HourGreen$Shelf", "held", "I", false)
  | 1 => ("HourGreen$Shelf", "next", "I", false)
  | _ => ("HourGreen$Shelf", "greens", "[LHourGreen$Green;", true)
def tyX4 : Nat → FieldType := fun k => match k with
  | 0 => .int
  | 1 => .int
  | _ => .array (.object "HourGreen$Green")
abbrev wsX40 : List Cond := u_ws RX4 TX4 3
theorem nmX4 : ∀ a, a < 3 → ∀ b, b < 3 → a ≠ b → (TX4 a).2.1 ≠ (TX4 b).2.1 := by decide +kernel
theorem tyX4_ok : ∀ k, k < 3 → parseFieldDescriptor (TX4 k).2.2.1 = some (tyX4 k) := by decide +kernel
abbrev cX4_init : ByteArray := prog_6_method_1_code
def yX4_init : MethodName := ⟨RX4, "<init>", "(I)V"⟩
abbrev cX4_empty : ByteArray := prog_6_method_2_code
def yX4_empty : MethodName := ⟨RX4, "empty", "()V"⟩
abbrev cX4_isFull : ByteArray := prog_6_method_3_code
def yX4_isFull : MethodName := ⟨RX4, "isFull", "()Z"⟩
abbrev cX4_store : ByteArray := prog_6_method_4_code
def yX4_store : MethodName := ⟨RX4, "store", "(LHourGreen$Green;)V"⟩
abbrev cX4_fetchInto : ByteArray := prog_6_method_5_code
def yX4_fetchInto : MethodName := ⟨RX4, "fetchInto", "(LHourGreen$Green;)Z"⟩
abbrev cX4_slotAt : ByteArray := prog_6_method_6_code
def yX4_slotAt : MethodName := ⟨RX4, "slotAt", "(I)LHourGreen$Green;"⟩
def RX5 : String := "HourGreen$Sightings"
def TX5 : u_T := fun k => match k with
  | 0 => ("HourGreen$Sightings", "held", "I", false)
  | 1 => ("HourGreen$Sightings", "ahead", "[I", true)
  | 2 => ("HourGreen$Sightings", "hourSeen", "[I", true)
  | _ => ("HourGreen$Sightings", "inPorch", "[Z", true)
def tyX5 : Nat → FieldType := fun k => match k with
  | 0 => .int
  | 1 => .array .int
  | 2 => .array .int
  | _ => .array .boolean
abbrev wsX50 : List Cond := u_ws RX5 TX5 4
theorem nmX5 : ∀ a, a < 4 → ∀ b, b < 4 → a ≠ b → (TX5 a).2.1 ≠ (TX5 b).2.1 := by decide +kernel
theorem tyX5_ok : ∀ k, k < 4 → parseFieldDescriptor (TX5 k).2.2.1 = some (tyX5 k) := by decide +kernel
abbrev cX5_init : ByteArray := prog_7_method_1_code
def yX5_init : MethodName := ⟨RX5, "<init>", "()V"⟩
abbrev cX5_add : ByteArray := prog_7_method_2_code
def yX5_add : MethodName := ⟨RX5, "add", "(IIZ)Z"⟩
abbrev cX5_empty : ByteArray := prog_7_method_3_code
def yX5_empty : MethodName := ⟨RX5, "empty", "()I"⟩
abbrev cX5_comeTrueIn : ByteArray := prog_7_method_4_code
def yX5_comeTrueIn : MethodName := ⟨RX5, "comeTrueIn", "(LHourGreen$Green;)Z"⟩
def RX6 : String := "HourGreen"
def TX6 : u_T := fun k => match k with
  | 0 => ("HourGreen", "script", "LHourGreen$Script;", true)
  | 1 => ("HourGreen", "now", "LHourGreen$Green;", true)
  | 2 => ("HourGreen", "trial", "LHourGreen$Green;", true)
  | 3 => ("HourGreen", "past", "LHourGreen$Shelf;", true)
  | 4 => ("HourGreen", "kept", "LHourGreen$Shelf;", true)
  | 5 => ("HourGreen", "sightings", "LHourGreen$Sightings;", true)
  | 6 => ("HourGreen", "packing", "LHourGreen$Packing;", true)
  | _ => ("HourGreen", "odds", "LHourGreen$Odds;", true)
def tyX6 : Nat → FieldType := fun k => match k with
  | 0 => .object "HourGreen$Script"
  | 1 => .object "HourGreen$Green"
  | 2 => .object "HourGreen$Green"
  | 3 => .object "HourGreen$Shelf"
  | 4 => .object "HourGreen$Shelf"
  | 5 => .object "HourGreen$Sightings"
  | 6 => .object "HourGreen$Packing"
  | _ => .object "HourGreen$Odds"
abbrev wsX60 : List Cond := u_ws RX6 TX6 8
theorem nmX6 : ∀ a, a < 8 → ∀ b, b < 8 → a ≠ b → (TX6 a).2.1 ≠ (TX6 b).2.1 := by decide +kernel
theorem tyX6_ok : ∀ k, k < 8 → parseFieldDescriptor (TX6 k).2.2.1 = some (tyX6 k) := by decide +kernel
abbrev cX6_init : ByteArray := prog_1_method_1_code
def yX6_init : MethodName := ⟨RX6, "<init>", "()V"⟩
abbrev cX6_write : ByteArray := prog_1_method_2_code
def yX6_write : MethodName := ⟨RX6, "write", "(I)I"⟩
abbrev cX6_wipe : ByteArray := prog_1_method_3_code
def yX6_wipe : MethodName := ⟨RX6, "wipe", "()I"⟩
abbrev cX6_fault : ByteArray := prog_1_method_4_code
def yX6_fault : MethodName := ⟨RX6, "fault", "()I"⟩
abbrev cX6_lay : ByteArray := prog_1_method_5_code
def yX6_lay : MethodName := ⟨RX6, "lay", "()I"⟩
abbrev cX6_plot : ByteArray := prog_1_method_6_code
def yX6_plot : MethodName := ⟨RX6, "plot", "(II)I"⟩
abbrev cX6_hour : ByteArray := prog_1_method_7_code
def yX6_hour : MethodName := ⟨RX6, "hour", "(II)I"⟩
abbrev cX6_fits : ByteArray := prog_1_method_8_code
def yX6_fits : MethodName := ⟨RX6, "fits", "(II)I"⟩
abbrev cX6_pass : ByteArray := prog_1_method_9_code
def yX6_pass : MethodName := ⟨RX6, "pass", "(I)I"⟩
abbrev cX6_put : ByteArray := prog_1_method_10_code
def yX6_put : MethodName := ⟨RX6, "put", "(II)I"⟩
abbrev cX6_up : ByteArray := prog_1_method_11_code
def yX6_up : MethodName := ⟨RX6, "up", "(I)I"⟩
abbrev cX6_dig : ByteArray := prog_1_method_12_code
def yX6_dig : MethodName := ⟨RX6, "dig", "(I)I"⟩
abbrev cX6_undo : ByteArray := prog_1_method_13_code
def yX6_undo : MethodName := ⟨RX6, "undo", "()I"⟩
abbrev cX6_out : ByteArray := prog_1_method_14_code
def yX6_out : MethodName := ⟨RX6, "out", "(I)I"⟩
abbrev cX6_behind : ByteArray := prog_1_method_15_code
def yX6_behind : MethodName := ⟨RX6, "behind", "(II)I"⟩
abbrev cX6_above : ByteArray := prog_1_method_16_code
def yX6_above : MethodName := ⟨RX6, "above", "(I)I"⟩
abbrev cX6_packs : ByteArray := prog_1_method_17_code
def yX6_packs : MethodName := ⟨RX6, "packs", "(I)I"⟩
abbrev cX6_stir : ByteArray := prog_1_method_18_code
def yX6_stir : MethodName := ⟨RX6, "stir", "(I)I"⟩
abbrev cX6_cheap : ByteArray := prog_1_method_19_code
def yX6_cheap : MethodName := ⟨RX6, "cheap", "(II)I"⟩
abbrev cX6_deeper : ByteArray := prog_1_method_20_code
def yX6_deeper : MethodName := ⟨RX6, "deeper", "(I)I"⟩
abbrev cX6_years : ByteArray := prog_1_method_21_code
def yX6_years : MethodName := ⟨RX6, "years", "(I)I"⟩
abbrev cX6_seen : ByteArray := prog_1_method_22_code
def yX6_seen : MethodName := ⟨RX6, "seen", "(III)I"⟩
abbrev cX6_forget : ByteArray := prog_1_method_23_code
def yX6_forget : MethodName := ⟨RX6, "forget", "()I"⟩
abbrev cX6_plots : ByteArray := prog_1_method_24_code
def yX6_plots : MethodName := ⟨RX6, "plots", "(I)I"⟩
abbrev cX6_kinds : ByteArray := prog_1_method_25_code
def yX6_kinds : MethodName := ⟨RX6, "kinds", "(I)I"⟩
abbrev cX6_likely : ByteArray := prog_1_method_26_code
def yX6_likely : MethodName := ⟨RX6, "likely", "(IIII)I"⟩
abbrev cX6_decade : ByteArray := prog_1_method_27_code
def yX6_decade : MethodName := ⟨RX6, "decade", "(III)I"⟩
abbrev cX6_keep : ByteArray := prog_1_method_28_code
def yX6_keep : MethodName := ⟨RX6, "keep", "()I"⟩
abbrev cX6_back : ByteArray := prog_1_method_29_code
def yX6_back : MethodName := ⟨RX6, "back", "()I"⟩
abbrev cX6_count : ByteArray := prog_1_method_30_code
def yX6_count : MethodName := ⟨RX6, "count", "(I)I"⟩
abbrev cX6_isWithin : ByteArray := prog_1_method_31_code
def yX6_isWithin : MethodName := ⟨RX6, "isWithin", "(III)Z"⟩
abbrev cX6_drawOf : ByteArray := prog_1_method_32_code
def yX6_drawOf : MethodName := ⟨RX6, "drawOf", "(II)I"⟩
def RX7 : String := "HourGreenModel"
def TX7 : u_T := fun k => match k with
  | 0 => ("HourGreenModel", "text", "[I", true)
  | 1 => ("HourGreenModel", "typed", "I", false)
  | 2 => ("HourGreenModel", "told", "[I", true)
  | 3 => ("HourGreenModel", "draft", "[I", true)
  | 4 => ("HourGreenModel", "s", "[I", true)
  | 5 => ("HourGreenModel", "past", "[I", true)
  | 6 => ("HourGreenModel", "known", "I", false)
  | 7 => ("HourGreenModel", "images", "[I", true)
  | 8 => ("HourGreenModel", "kept", "I", false)
  | 9 => ("HourGreenModel", "notes", "[I", true)
  | 10 => ("HourGreenModel", "noted", "I", false)
  | 11 => ("HourGreenModel", "at", "I", false)
  | 12 => ("HourGreenModel", "aside", "[I", true)
  | 13 => ("HourGreenModel", "spot", "[I", true)
  | 14 => ("HourGreenModel", "choice", "[I", true)
  | 15 => ("HourGreenModel", "tried", "[I", true)
  | 16 => ("HourGreenModel", "rest", "[I", true)
  | _ => ("HourGreenModel", "trial", "[I", true)
def tyX7 : Nat → FieldType := fun k => match k with
  | 0 => .array .int
  | 1 => .int
  | 2 => .array .int
  | 3 => .array .int
  | 4 => .array .int
  | 5 => .array .int
  | 6 => .int
  | 7 => .array .int
  | 8 => .int
  | 9 => .array .int
  | 10 => .int
  | 11 => .int
  | 12 => .array .int
  | 13 => .array .int
  | 14 => .array .int
  | 15 => .array .int
  | 16 => .array .int
  | _ => .array .int
abbrev wsX70 : List Cond := u_ws RX7 TX7 18
theorem nmX7 : ∀ a, a < 18 → ∀ b, b < 18 → a ≠ b → (TX7 a).2.1 ≠ (TX7 b).2.1 := by decide +kernel
theorem tyX7_ok : ∀ k, k < 18 → parseFieldDescriptor (TX7 k).2.2.1 = some (tyX7 k) := by decide +kernel
abbrev cX7_init : ByteArray := prog_9_method_1_code
def yX7_init : MethodName := ⟨RX7, "<init>", "()V"⟩
abbrev cX7_in : ByteArray := prog_9_method_3_code
def yX7_in : MethodName := ⟨RX7, "in", "(III)Z"⟩
abbrev cX7_has : ByteArray := prog_9_method_4_code
def yX7_has : MethodName := ⟨RX7, "has", "(II)Z"⟩
abbrev cX7_ones : ByteArray := prog_9_method_5_code
def yX7_ones : MethodName := ⟨RX7, "ones", "(I)I"⟩
abbrev cX7_isPlot : ByteArray := prog_9_method_6_code
def yX7_isPlot : MethodName := ⟨RX7, "isPlot", "(I)Z"⟩
abbrev cX7_isHour : ByteArray := prog_9_method_7_code
def yX7_isHour : MethodName := ⟨RX7, "isHour", "(I)Z"⟩
abbrev cX7_manyIn : ByteArray := prog_9_method_8_code
def yX7_manyIn : MethodName := ⟨RX7, "manyIn", "(I)I"⟩
abbrev cX7_lying : ByteArray := prog_9_method_9_code
def yX7_lying : MethodName := ⟨RX7, "lying", "(II)I"⟩
abbrev cX7_topOf : ByteArray := prog_9_method_10_code
def yX7_topOf : MethodName := ⟨RX7, "topOf", "(I)I"⟩
abbrev cX7_needs : ByteArray := prog_9_method_11_code
def yX7_needs : MethodName := ⟨RX7, "needs", "(II)I"⟩
abbrev cX7_kindOf : ByteArray := prog_9_method_12_code
def yX7_kindOf : MethodName := ⟨RX7, "kindOf", "(IZ)I"⟩
abbrev cX7_allNeeds : ByteArray := prog_9_method_13_code
def yX7_allNeeds : MethodName := ⟨RX7, "allNeeds", "(IZ)I"⟩
abbrev cX7_isFit : ByteArray := prog_9_method_14_code
def yX7_isFit : MethodName := ⟨RX7, "isFit", "(IIZ)Z"⟩
abbrev cX7_lays : ByteArray := prog_9_method_15_code
def yX7_lays : MethodName := ⟨RX7, "lays", "(II)V"⟩
abbrev cX7_takes : ByteArray := prog_9_method_16_code
def yX7_takes : MethodName := ⟨RX7, "takes", "(I)I"⟩
abbrev cX7_write : ByteArray := prog_9_method_17_code
def yX7_write : MethodName := ⟨RX7, "write", "(I)I"⟩
abbrev cX7_wipe : ByteArray := prog_9_method_18_code
def yX7_wipe : MethodName := ⟨RX7, "wipe", "()I"⟩
abbrev cX7_letterAt : ByteArray := prog_9_method_19_code
def yX7_letterAt : MethodName := ⟨RX7, "letterAt", "(I)I"⟩
abbrev cX7_isFigure : ByteArray := prog_9_method_20_code
def yX7_isFigure : MethodName := ⟨RX7, "isFigure", "(I)Z"⟩
abbrev cX7_number : ByteArray := prog_9_method_21_code
def yX7_number : MethodName := ⟨RX7, "number", "(III)I"⟩
abbrev cX7_holds : ByteArray := prog_9_method_22_code
def yX7_holds : MethodName := ⟨RX7, "holds", "()V"⟩
abbrev cX7_newHour : ByteArray := prog_9_method_23_code
def yX7_newHour : MethodName := ⟨RX7, "newHour", "(III)V"⟩
abbrev cX7_readsHour : ByteArray := prog_9_method_24_code
def yX7_readsHour : MethodName := ⟨RX7, "readsHour", "(Z)Z"⟩
abbrev cX7_readsItem : ByteArray := prog_9_method_25_code
def yX7_readsItem : MethodName := ⟨RX7, "readsItem", "(I)Z"⟩
abbrev cX7_readsAll : ByteArray := prog_9_method_26_code
def yX7_readsAll : MethodName := ⟨RX7, "readsAll", "()I"⟩
abbrev cX7_fault : ByteArray := prog_9_method_27_code
def yX7_fault : MethodName := ⟨RX7, "fault", "()I"⟩
abbrev cX7_lay : ByteArray := prog_9_method_28_code
def yX7_lay : MethodName := ⟨RX7, "lay", "()I"⟩
abbrev cX7_plot : ByteArray := prog_9_method_29_code
def yX7_plot : MethodName := ⟨RX7, "plot", "(II)I"⟩
abbrev cX7_hour : ByteArray := prog_9_method_30_code
def yX7_hour : MethodName := ⟨RX7, "hour", "(II)I"⟩
abbrev cX7_fits : ByteArray := prog_9_method_31_code
def yX7_fits : MethodName := ⟨RX7, "fits", "(II)I"⟩
abbrev cX7_isFrost : ByteArray := prog_9_method_32_code
def yX7_isFrost : MethodName := ⟨RX7, "isFrost", "()Z"⟩
abbrev cX7_passes : ByteArray := prog_9_method_33_code
def yX7_passes : MethodName := ⟨RX7, "passes", "(Z)Z"⟩
abbrev cX7_keeps : ByteArray := prog_9_method_34_code
def yX7_keeps : MethodName := ⟨RX7, "keeps", "()V"⟩
abbrev cX7_pass : ByteArray := prog_9_method_35_code
def yX7_pass : MethodName := ⟨RX7, "pass", "(I)I"⟩
abbrev cX7_mayPut : ByteArray := prog_9_method_36_code
def yX7_mayPut : MethodName := ⟨RX7, "mayPut", "(II)Z"⟩
abbrev cX7_put : ByteArray := prog_9_method_37_code
def yX7_put : MethodName := ⟨RX7, "put", "(II)I"⟩
abbrev cX7_up : ByteArray := prog_9_method_38_code
def yX7_up : MethodName := ⟨RX7, "up", "(I)I"⟩
abbrev cX7_dig : ByteArray := prog_9_method_39_code
def yX7_dig : MethodName := ⟨RX7, "dig", "(I)I"⟩
abbrev cX7_undo : ByteArray := prog_9_method_40_code
def yX7_undo : MethodName := ⟨RX7, "undo", "()I"⟩
abbrev cX7_looks : ByteArray := prog_9_method_41_code
def yX7_looks : MethodName := ⟨RX7, "looks", "()V"⟩
abbrev cX7_lets : ByteArray := prog_9_method_42_code
def yX7_lets : MethodName := ⟨RX7, "lets", "()V"⟩
abbrev cX7_out : ByteArray := prog_9_method_43_code
def yX7_out : MethodName := ⟨RX7, "out", "(I)I"⟩
abbrev cX7_behind : ByteArray := prog_9_method_44_code
def yX7_behind : MethodName := ⟨RX7, "behind", "(II)I"⟩
abbrev cX7_aboveOf : ByteArray := prog_9_method_45_code
def yX7_aboveOf : MethodName := ⟨RX7, "aboveOf", "(I)I"⟩
abbrev cX7_above : ByteArray := prog_9_method_46_code
def yX7_above : MethodName := ⟨RX7, "above", "(I)I"⟩
abbrev cX7_marks : ByteArray := prog_9_method_47_code
def yX7_marks : MethodName := ⟨RX7, "marks", "()V"⟩
abbrev cX7_packed : ByteArray := prog_9_method_48_code
def yX7_packed : MethodName := ⟨RX7, "packed", "()I"⟩
abbrev cX7_packs : ByteArray := prog_9_method_49_code
def yX7_packs : MethodName := ⟨RX7, "packs", "(I)I"⟩
abbrev cX7_lyingAll : ByteArray := prog_9_method_50_code
def yX7_lyingAll : MethodName := ⟨RX7, "lyingAll", "()I"⟩
abbrev cX7_stirs : ByteArray := prog_9_method_51_code
def yX7_stirs : MethodName := ⟨RX7, "stirs", "(I)I"⟩
abbrev cX7_stir : ByteArray := prog_9_method_52_code
def yX7_stir : MethodName := ⟨RX7, "stir", "(I)I"⟩
abbrev cX7_worthOf : ByteArray := prog_9_method_53_code
def yX7_worthOf : MethodName := ⟨RX7, "worthOf", "(I)I"⟩
abbrev cX7_cheap : ByteArray := prog_9_method_54_code
def yX7_cheap : MethodName := ⟨RX7, "cheap", "(II)I"⟩
abbrev cX7_deeper : ByteArray := prog_9_method_55_code
def yX7_deeper : MethodName := ⟨RX7, "deeper", "(I)I"⟩
abbrev cX7_years : ByteArray := prog_9_method_56_code
def yX7_years : MethodName := ⟨RX7, "years", "(I)I"⟩
abbrev cX7_seen : ByteArray := prog_9_method_57_code
def yX7_seen : MethodName := ⟨RX7, "seen", "(III)I"⟩
abbrev cX7_forget : ByteArray := prog_9_method_58_code
def yX7_forget : MethodName := ⟨RX7, "forget", "()I"⟩
abbrev cX7_isSo : ByteArray := prog_9_method_59_code
def yX7_isSo : MethodName := ⟨RX7, "isSo", "()Z"⟩
abbrev cX7_plots : ByteArray := prog_9_method_60_code
def yX7_plots : MethodName := ⟨RX7, "plots", "(I)I"⟩
abbrev cX7_kinds : ByteArray := prog_9_method_61_code
def yX7_kinds : MethodName := ⟨RX7, "kinds", "(I)I"⟩
abbrev cX7_likely : ByteArray := prog_9_method_62_code
def yX7_likely : MethodName := ⟨RX7, "likely", "(IIII)I"⟩
abbrev cX7_turn : ByteArray := prog_9_method_63_code
def yX7_turn : MethodName := ⟨RX7, "turn", "(I)V"⟩
abbrev cX7_decade : ByteArray := prog_9_method_64_code
def yX7_decade : MethodName := ⟨RX7, "decade", "(III)I"⟩
abbrev cX7_keep : ByteArray := prog_9_method_65_code
def yX7_keep : MethodName := ⟨RX7, "keep", "()I"⟩
abbrev cX7_back : ByteArray := prog_9_method_66_code
def yX7_back : MethodName := ⟨RX7, "back", "()I"⟩
abbrev cX7_count : ByteArray := prog_9_method_67_code
def yX7_count : MethodName := ⟨RX7, "count", "(I)I"⟩
def RJ6 : String := "java/lang/Integer"
def TJ6 : u_T := fun k => match k with
  | _ => ("", "", "", false)
def tyJ6 : Nat → FieldType := fun k => match k with
  | _ => .int
abbrev wsJ60 : List Cond := u_ws RJ6 TJ6 0
theorem nmJ6 : ∀ a, a < 0 → ∀ b, b < 0 → a ≠ b → (TJ6 a).2.1 ≠ (TJ6 b).2.1 := by decide +kernel
theorem tyJ6_ok : ∀ k, k < 0 → parseFieldDescriptor (TJ6 k).2.2.1 = some (tyJ6 k) := by decide +kernel
abbrev cJ6_bitCount_0f7a4 : ByteArray := prog_10_method_49_code
def yJ6_bitCount_0f7a4 : MethodName := ⟨RJ6, "bitCount", "(I)I"⟩
def RJ9 : String := "java/lang/Math"
def TJ9 : u_T := fun k => match k with
  | _ => ("", "", "", false)
def tyJ9 : Nat → FieldType := fun k => match k with
  | _ => .int
abbrev wsJ90 : List Cond := u_ws RJ9 TJ9 0
theorem nmJ9 : ∀ a, a < 0 → ∀ b, b < 0 → a ≠ b → (TJ9 a).2.1 ≠ (TJ9 b).2.1 := by decide +kernel
theorem tyJ9_ok : ∀ k, k < 0 → parseFieldDescriptor (TJ9 k).2.2.1 = some (tyJ9 k) := by decide +kernel
abbrev cJ9_max_7cf53 : ByteArray := prog_11_method_65_code
def yJ9_max_7cf53 : MethodName := ⟨RJ9, "max", "(II)I"⟩
def RJ0 : String := "java/lang/String"
def TJ0 : u_T := fun k => match k with
  | _ => ("", "", "", false)
def tyJ0 : Nat → FieldType := fun k => match k with
  | _ => .int
abbrev wsJ00 : List Cond := u_ws RJ0 TJ0 0
theorem nmJ0 : ∀ a, a < 0 → ∀ b, b < 0 → a ≠ b → (TJ0 a).2.1 ≠ (TJ0 b).2.1 := by decide +kernel
theorem tyJ0_ok : ∀ k, k < 0 → parseFieldDescriptor (TJ0 k).2.2.1 = some (tyJ0 k) := by decide +kernel
abbrev cJ0_length_8abf5 : ByteArray := prog_12_method_54_code
def yJ0_length_8abf5 : MethodName := ⟨RJ0, "length", "()I"⟩
abbrev cJ0_charAt_5068e : ByteArray := prog_12_method_56_code
def yJ0_charAt_5068e : MethodName := ⟨RJ0, "charAt", "(I)C"⟩
abbrev cJ0_coder_7d493 : ByteArray := prog_12_method_152_code
def yJ0_coder_7d493 : MethodName := ⟨RJ0, "coder", "()B"⟩
abbrev cJ0_isLatin1_aae02 : ByteArray := prog_12_method_154_code
def yJ0_isLatin1_aae02 : MethodName := ⟨RJ0, "isLatin1", "()Z"⟩
abbrev cJ0_checkIndex_df160 : ByteArray := prog_12_method_155_code
def yJ0_checkIndex_df160 : MethodName := ⟨RJ0, "checkIndex", "(II)V"⟩
def RJ1 : String := "java/lang/StringLatin1"
def TJ1 : u_T := fun k => match k with
  | _ => ("", "", "", false)
def tyJ1 : Nat → FieldType := fun k => match k with
  | _ => .int
abbrev wsJ10 : List Cond := u_ws RJ1 TJ1 0
theorem nmJ1 : ∀ a, a < 0 → ∀ b, b < 0 → a ≠ b → (TJ1 a).2.1 ≠ (TJ1 b).2.1 := by decide +kernel
theorem tyJ1_ok : ∀ k, k < 0 → parseFieldDescriptor (TJ1 k).2.2.1 = some (tyJ1 k) := by decide +kernel
abbrev cJ1_charAt_3b067 : ByteArray := prog_13_method_2_code
def yJ1_charAt_3b067 : MethodName := ⟨RJ1, "charAt", "([BI)C"⟩
def RJ2 : String := "java/lang/StringUTF16"
def TJ2 : u_T := fun k => match k with
  | _ => ("", "", "", false)
def tyJ2 : Nat → FieldType := fun k => match k with
  | _ => .int
abbrev wsJ20 : List Cond := u_ws RJ2 TJ2 0
theorem nmJ2 : ∀ a, a < 0 → ∀ b, b < 0 → a ≠ b → (TJ2 a).2.1 ≠ (TJ2 b).2.1 := by decide +kernel
theorem tyJ2_ok : ∀ k, k < 0 → parseFieldDescriptor (TJ2 k).2.2.1 = some (tyJ2 k) := by decide +kernel
abbrev cJ2_getChar_3b067 : ByteArray := prog_14_method_5_code
def yJ2_getChar_3b067 : MethodName := ⟨RJ2, "getChar", "([BI)C"⟩
abbrev cJ2_length_9d52b : ByteArray := prog_14_method_6_code
def yJ2_length_9d52b : MethodName := ⟨RJ2, "length", "([B)I"⟩
abbrev cJ2_charAt_3b067 : ByteArray := prog_14_method_83_code
def yJ2_charAt_3b067 : MethodName := ⟨RJ2, "charAt", "([BI)C"⟩
abbrev cJ2_checkIndex_2214a : ByteArray := prog_14_method_91_code
def yJ2_checkIndex_2214a : MethodName := ⟨RJ2, "checkIndex", "(I[B)V"⟩
def RJ3 : String := "jdk/internal/util/Preconditions"
def TJ3 : u_T := fun k => match k with
  | _ => ("", "", "", false)
def tyJ3 : Nat → FieldType := fun k => match k with
  | _ => .int
abbrev wsJ30 : List Cond := u_ws RJ3 TJ3 0
theorem nmJ3 : ∀ a, a < 0 → ∀ b, b < 0 → a ≠ b → (TJ3 a).2.1 ≠ (TJ3 b).2.1 := by decide +kernel
theorem tyJ3_ok : ∀ k, k < 0 → parseFieldDescriptor (TJ3 k).2.2.1 = some (tyJ3 k) := by decide +kernel
abbrev cJ3_checkIndex_8e157 : ByteArray := prog_15_method_11_code
def yJ3_checkIndex_8e157 : MethodName := ⟨RJ3, "checkIndex", "(IILjava/util/function/BiFunction;)I"⟩
def RL : String := "HourGreenLaw"
abbrev cL_law : ByteArray := code
def yL_law : MethodName := ⟨RL, "law", "([I)Z"⟩
abbrev vwCl : List vw_C := [(RX0, TX0, 10), (RX1, TX1, 3), (RX2, TX2, 7), (RX3, TX3, 3), (RX4, TX4, 3), (RX5, TX5, 4), (RX6, TX6, 8), (RX7, TX7, 18)]
