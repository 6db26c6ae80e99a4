section
/-- a private method of a class that the tables say can be made, by its rows of tables_1 -/
def lw_okq (q : MethodName × Nat) : Prop := (q.1.cls ≠ "java/lang/invoke/MethodHandle" ∧ q.1.cls ≠ "java/lang/invoke/VarHandle") ∧ Cond.instantiable q.1.cls q.2 ∈ tables_1 ∧ Cond.privateMethod q.1 ∈ tables_1 ∧ Cond.instanceMethod q.1 ∈ tables_1
theorem lw_p0 : lw_okq (⟨"HourGreen$Script", "readItem", "(I)I"⟩, 3) := ⟨⟨by decide +kernel, by decide +kernel⟩, List.mem_of_getElem? (i := 24) (by decide +kernel), List.mem_of_getElem? (i := 238) (by decide +kernel), List.mem_of_getElem? (i := 239) (by decide +kernel)⟩
theorem lw_p1 : lw_okq (⟨"HourGreen$Script", "letterAt", "(I)C"⟩, 3) := ⟨⟨by decide +kernel, by decide +kernel⟩, List.mem_of_getElem? (i := 24) (by decide +kernel), List.mem_of_getElem? (i := 242) (by decide +kernel), List.mem_of_getElem? (i := 243) (by decide +kernel)⟩
theorem lw_p2 : lw_okq (⟨"HourGreen$Script", "figuresAt", "(I)I"⟩, 3) := ⟨⟨by decide +kernel, by decide +kernel⟩, List.mem_of_getElem? (i := 24) (by decide +kernel), List.mem_of_getElem? (i := 249) (by decide +kernel), List.mem_of_getElem? (i := 250) (by decide +kernel)⟩
theorem lw_p3 : lw_okq (⟨"HourGreen$Script", "numberAt", "(II)I"⟩, 3) := ⟨⟨by decide +kernel, by decide +kernel⟩, List.mem_of_getElem? (i := 24) (by decide +kernel), List.mem_of_getElem? (i := 256) (by decide +kernel), List.mem_of_getElem? (i := 257) (by decide +kernel)⟩
theorem lw_p4 : lw_okq (⟨"HourGreen$Script", "tell", "(LHourGreen$Green;C)Z"⟩, 3) := ⟨⟨by decide +kernel, by decide +kernel⟩, List.mem_of_getElem? (i := 24) (by decide +kernel), List.mem_of_getElem? (i := 260) (by decide +kernel), List.mem_of_getElem? (i := 261) (by decide +kernel)⟩
theorem lw_p5 : lw_okq (⟨"HourGreen$Shelf", "slotAt", "(I)LHourGreen$Green;"⟩, 3) := ⟨⟨by decide +kernel, by decide +kernel⟩, List.mem_of_getElem? (i := 90) (by decide +kernel), List.mem_of_getElem? (i := 436) (by decide +kernel), List.mem_of_getElem? (i := 437) (by decide +kernel)⟩
theorem lw_p6 : lw_okq (⟨"HourGreen$Packing", "lookAhead", "(LHourGreen$Green;)V"⟩, 7) := ⟨⟨by decide +kernel, by decide +kernel⟩, List.mem_of_getElem? (i := 134) (by decide +kernel), List.mem_of_getElem? (i := 526) (by decide +kernel), List.mem_of_getElem? (i := 527) (by decide +kernel)⟩
theorem lw_p7 : lw_okq (⟨"HourGreen$Packing", "choose", "(I)V"⟩, 7) := ⟨⟨by decide +kernel, by decide +kernel⟩, List.mem_of_getElem? (i := 134) (by decide +kernel), List.mem_of_getElem? (i := 537) (by decide +kernel), List.mem_of_getElem? (i := 538) (by decide +kernel)⟩
theorem lw_p8 : lw_okq (⟨"HourGreen$Packing", "hasTwinAhead", "(II)Z"⟩, 7) := ⟨⟨by decide +kernel, by decide +kernel⟩, List.mem_of_getElem? (i := 134) (by decide +kernel), List.mem_of_getElem? (i := 545) (by decide +kernel), List.mem_of_getElem? (i := 546) (by decide +kernel)⟩
theorem lw_p9 : lw_okq (⟨"HourGreen$Odds", "spread", "(II)V"⟩, 3) := ⟨⟨by decide +kernel, by decide +kernel⟩, List.mem_of_getElem? (i := 162) (by decide +kernel), List.mem_of_getElem? (i := 647) (by decide +kernel), List.mem_of_getElem? (i := 648) (by decide +kernel)⟩
theorem lw_p10 : lw_okq (⟨"HourGreenModel", "holds", "()V"⟩, 18) := ⟨⟨by decide +kernel, by decide +kernel⟩, List.mem_of_getElem? (i := 693) (by decide +kernel), List.mem_of_getElem? (i := 699) (by decide +kernel), List.mem_of_getElem? (i := 700) (by decide +kernel)⟩
theorem lw_p11 : lw_okq (⟨"HourGreenModel", "newHour", "(III)V"⟩, 18) := ⟨⟨by decide +kernel, by decide +kernel⟩, List.mem_of_getElem? (i := 693) (by decide +kernel), List.mem_of_getElem? (i := 706) (by decide +kernel), List.mem_of_getElem? (i := 707) (by decide +kernel)⟩
theorem lw_p12 : lw_okq (⟨"HourGreenModel", "lays", "(II)V"⟩, 18) := ⟨⟨by decide +kernel, by decide +kernel⟩, List.mem_of_getElem? (i := 693) (by decide +kernel), List.mem_of_getElem? (i := 710) (by decide +kernel), List.mem_of_getElem? (i := 711) (by decide +kernel)⟩
theorem lw_p13 : lw_okq (⟨"HourGreenModel", "manyIn", "(I)I"⟩, 18) := ⟨⟨by decide +kernel, by decide +kernel⟩, List.mem_of_getElem? (i := 693) (by decide +kernel), List.mem_of_getElem? (i := 714) (by decide +kernel), List.mem_of_getElem? (i := 715) (by decide +kernel)⟩
theorem lw_p14 : lw_okq (⟨"HourGreenModel", "readsAll", "()I"⟩, 18) := ⟨⟨by decide +kernel, by decide +kernel⟩, List.mem_of_getElem? (i := 693) (by decide +kernel), List.mem_of_getElem? (i := 785) (by decide +kernel), List.mem_of_getElem? (i := 786) (by decide +kernel)⟩
theorem lw_p15 : lw_okq (⟨"HourGreenModel", "readsItem", "(I)Z"⟩, 18) := ⟨⟨by decide +kernel, by decide +kernel⟩, List.mem_of_getElem? (i := 693) (by decide +kernel), List.mem_of_getElem? (i := 789) (by decide +kernel), List.mem_of_getElem? (i := 790) (by decide +kernel)⟩
def lw_privs_1 : List (MethodName × Nat) := [(⟨"HourGreen$Script", "readItem", "(I)I"⟩, 3), (⟨"HourGreen$Script", "letterAt", "(I)C"⟩, 3), (⟨"HourGreen$Script", "figuresAt", "(I)I"⟩, 3), (⟨"HourGreen$Script", "numberAt", "(II)I"⟩, 3), (⟨"HourGreen$Script", "tell", "(LHourGreen$Green;C)Z"⟩, 3), (⟨"HourGreen$Shelf", "slotAt", "(I)LHourGreen$Green;"⟩, 3), (⟨"HourGreen$Packing", "lookAhead", "(LHourGreen$Green;)V"⟩, 7), (⟨"HourGreen$Packing", "choose", "(I)V"⟩, 7), (⟨"HourGreen$Packing", "hasTwinAhead", "(II)Z"⟩, 7), (⟨"HourGreen$Odds", "spread", "(II)V"⟩, 3), (⟨"HourGreenModel", "holds", "()V"⟩, 18), (⟨"HourGreenModel", "newHour", "(III)V"⟩, 18), (⟨"HourGreenModel", "lays", "(II)V"⟩, 18), (⟨"HourGreenModel", "manyIn", "(I)I"⟩, 18), (⟨"HourGreenModel", "readsAll", "()I"⟩, 18), (⟨"HourGreenModel", "readsItem", "(I)Z"⟩, 18)]
theorem lw_r1 : ∀ q ∈ lw_privs_1, lw_okq q := List.forall_mem_cons.mpr ⟨lw_p0, List.forall_mem_cons.mpr ⟨lw_p1, List.forall_mem_cons.mpr ⟨lw_p2, List.forall_mem_cons.mpr ⟨lw_p3, List.forall_mem_cons.mpr ⟨lw_p4, List.forall_mem_cons.mpr ⟨lw_p5, List.forall_mem_cons.mpr ⟨lw_p6, List.forall_mem_cons.mpr ⟨lw_p7, List.forall_mem_cons.mpr ⟨lw_p8, List.forall_mem_cons.mpr ⟨lw_p9, List.forall_mem_cons.mpr ⟨lw_p10, List.forall_mem_cons.mpr ⟨lw_p11, List.forall_mem_cons.mpr ⟨lw_p12, List.forall_mem_cons.mpr ⟨lw_p13, List.forall_mem_cons.mpr ⟨lw_p14, List.forall_mem_cons.mpr ⟨lw_p15, fun _ h => absurd h List.not_mem_nil⟩⟩⟩⟩⟩⟩⟩⟩⟩⟩⟩⟩⟩⟩⟩⟩
theorem lw_p16 : lw_okq (⟨"HourGreenModel", "number", "(III)I"⟩, 18) := ⟨⟨by decide +kernel, by decide +kernel⟩, List.mem_of_getElem? (i := 693) (by decide +kernel), List.mem_of_getElem? (i := 793) (by decide +kernel), List.mem_of_getElem? (i := 794) (by decide +kernel)⟩
theorem lw_p17 : lw_okq (⟨"HourGreenModel", "letterAt", "(I)I"⟩, 18) := ⟨⟨by decide +kernel, by decide +kernel⟩, List.mem_of_getElem? (i := 693) (by decide +kernel), List.mem_of_getElem? (i := 797) (by decide +kernel), List.mem_of_getElem? (i := 798) (by decide +kernel)⟩
theorem lw_p18 : lw_okq (⟨"HourGreenModel", "readsHour", "(Z)Z"⟩, 18) := ⟨⟨by decide +kernel, by decide +kernel⟩, List.mem_of_getElem? (i := 693) (by decide +kernel), List.mem_of_getElem? (i := 804) (by decide +kernel), List.mem_of_getElem? (i := 805) (by decide +kernel)⟩
theorem lw_p19 : lw_okq (⟨"HourGreenModel", "isFit", "(IIZ)Z"⟩, 18) := ⟨⟨by decide +kernel, by decide +kernel⟩, List.mem_of_getElem? (i := 693) (by decide +kernel), List.mem_of_getElem? (i := 808) (by decide +kernel), List.mem_of_getElem? (i := 809) (by decide +kernel)⟩
theorem lw_p20 : lw_okq (⟨"HourGreenModel", "topOf", "(I)I"⟩, 18) := ⟨⟨by decide +kernel, by decide +kernel⟩, List.mem_of_getElem? (i := 693) (by decide +kernel), List.mem_of_getElem? (i := 812) (by decide +kernel), List.mem_of_getElem? (i := 813) (by decide +kernel)⟩
theorem lw_p21 : lw_okq (⟨"HourGreenModel", "lying", "(II)I"⟩, 18) := ⟨⟨by decide +kernel, by decide +kernel⟩, List.mem_of_getElem? (i := 693) (by decide +kernel), List.mem_of_getElem? (i := 816) (by decide +kernel), List.mem_of_getElem? (i := 817) (by decide +kernel)⟩
theorem lw_p22 : lw_okq (⟨"HourGreenModel", "kindOf", "(IZ)I"⟩, 18) := ⟨⟨by decide +kernel, by decide +kernel⟩, List.mem_of_getElem? (i := 693) (by decide +kernel), List.mem_of_getElem? (i := 820) (by decide +kernel), List.mem_of_getElem? (i := 821) (by decide +kernel)⟩
theorem lw_p23 : lw_okq (⟨"HourGreenModel", "allNeeds", "(IZ)I"⟩, 18) := ⟨⟨by decide +kernel, by decide +kernel⟩, List.mem_of_getElem? (i := 693) (by decide +kernel), List.mem_of_getElem? (i := 824) (by decide +kernel), List.mem_of_getElem? (i := 825) (by decide +kernel)⟩
theorem lw_p24 : lw_okq (⟨"HourGreenModel", "lets", "()V"⟩, 18) := ⟨⟨by decide +kernel, by decide +kernel⟩, List.mem_of_getElem? (i := 693) (by decide +kernel), List.mem_of_getElem? (i := 831) (by decide +kernel), List.mem_of_getElem? (i := 832) (by decide +kernel)⟩
theorem lw_p25 : lw_okq (⟨"HourGreenModel", "isPlot", "(I)Z"⟩, 18) := ⟨⟨by decide +kernel, by decide +kernel⟩, List.mem_of_getElem? (i := 693) (by decide +kernel), List.mem_of_getElem? (i := 843) (by decide +kernel), List.mem_of_getElem? (i := 844) (by decide +kernel)⟩
theorem lw_p26 : lw_okq (⟨"HourGreenModel", "isHour", "(I)Z"⟩, 18) := ⟨⟨by decide +kernel, by decide +kernel⟩, List.mem_of_getElem? (i := 693) (by decide +kernel), List.mem_of_getElem? (i := 851) (by decide +kernel), List.mem_of_getElem? (i := 852) (by decide +kernel)⟩
theorem lw_p27 : lw_okq (⟨"HourGreenModel", "keeps", "()V"⟩, 18) := ⟨⟨by decide +kernel, by decide +kernel⟩, List.mem_of_getElem? (i := 693) (by decide +kernel), List.mem_of_getElem? (i := 863) (by decide +kernel), List.mem_of_getElem? (i := 864) (by decide +kernel)⟩
theorem lw_p28 : lw_okq (⟨"HourGreenModel", "passes", "(Z)Z"⟩, 18) := ⟨⟨by decide +kernel, by decide +kernel⟩, List.mem_of_getElem? (i := 693) (by decide +kernel), List.mem_of_getElem? (i := 867) (by decide +kernel), List.mem_of_getElem? (i := 868) (by decide +kernel)⟩
theorem lw_p29 : lw_okq (⟨"HourGreenModel", "takes", "(I)I"⟩, 18) := ⟨⟨by decide +kernel, by decide +kernel⟩, List.mem_of_getElem? (i := 693) (by decide +kernel), List.mem_of_getElem? (i := 871) (by decide +kernel), List.mem_of_getElem? (i := 872) (by decide +kernel)⟩
theorem lw_p30 : lw_okq (⟨"HourGreenModel", "mayPut", "(II)Z"⟩, 18) := ⟨⟨by decide +kernel, by decide +kernel⟩, List.mem_of_getElem? (i := 693) (by decide +kernel), List.mem_of_getElem? (i := 879) (by decide +kernel), List.mem_of_getElem? (i := 880) (by decide +kernel)⟩
theorem lw_p31 : lw_okq (⟨"HourGreenModel", "isFrost", "()Z"⟩, 18) := ⟨⟨by decide +kernel, by decide +kernel⟩, List.mem_of_getElem? (i := 693) (by decide +kernel), List.mem_of_getElem? (i := 883) (by decide +kernel), List.mem_of_getElem? (i := 884) (by decide +kernel)⟩
def lw_privs_2 : List (MethodName × Nat) := [(⟨"HourGreenModel", "number", "(III)I"⟩, 18), (⟨"HourGreenModel", "letterAt", "(I)I"⟩, 18), (⟨"HourGreenModel", "readsHour", "(Z)Z"⟩, 18), (⟨"HourGreenModel", "isFit", "(IIZ)Z"⟩, 18), (⟨"HourGreenModel", "topOf", "(I)I"⟩, 18), (⟨"HourGreenModel", "lying", "(II)I"⟩, 18), (⟨"HourGreenModel", "kindOf", "(IZ)I"⟩, 18), (⟨"HourGreenModel", "allNeeds", "(IZ)I"⟩, 18), (⟨"HourGreenModel", "lets", "()V"⟩, 18), (⟨"HourGreenModel", "isPlot", "(I)Z"⟩, 18), (⟨"HourGreenModel", "isHour", "(I)Z"⟩, 18), (⟨"HourGreenModel", "keeps", "()V"⟩, 18), (⟨"HourGreenModel", "passes", "(Z)Z"⟩, 18), (⟨"HourGreenModel", "takes", "(I)I"⟩, 18), (⟨"HourGreenModel", "mayPut", "(II)Z"⟩, 18), (⟨"HourGreenModel", "isFrost", "()Z"⟩, 18)]
theorem lw_r2 : ∀ q ∈ lw_privs_2, lw_okq q := List.forall_mem_cons.mpr ⟨lw_p16, List.forall_mem_cons.mpr ⟨lw_p17, List.forall_mem_cons.mpr ⟨lw_p18, List.forall_mem_cons.mpr ⟨lw_p19, List.forall_mem_cons.mpr ⟨lw_p20, List.forall_mem_cons.mpr ⟨lw_p21, List.forall_mem_cons.mpr ⟨lw_p22, List.forall_mem_cons.mpr ⟨lw_p23, List.forall_mem_cons.mpr ⟨lw_p24, List.forall_mem_cons.mpr ⟨lw_p25, List.forall_mem_cons.mpr ⟨lw_p26, List.forall_mem_cons.mpr ⟨lw_p27, List.forall_mem_cons.mpr ⟨lw_p28, List.forall_mem_cons.mpr ⟨lw_p29, List.forall_mem_cons.mpr ⟨lw_p30, List.forall_mem_cons.mpr ⟨lw_p31, fun _ h => absurd h List.not_mem_nil⟩⟩⟩⟩⟩⟩⟩⟩⟩⟩⟩⟩⟩⟩⟩⟩
theorem lw_p32 : lw_okq (⟨"HourGreenModel", "looks", "()V"⟩, 18) := ⟨⟨by decide +kernel, by decide +kernel⟩, List.mem_of_getElem? (i := 693) (by decide +kernel), List.mem_of_getElem? (i := 903) (by decide +kernel), List.mem_of_getElem? (i := 904) (by decide +kernel)⟩
theorem lw_p33 : lw_okq (⟨"HourGreenModel", "aboveOf", "(I)I"⟩, 18) := ⟨⟨by decide +kernel, by decide +kernel⟩, List.mem_of_getElem? (i := 693) (by decide +kernel), List.mem_of_getElem? (i := 915) (by decide +kernel), List.mem_of_getElem? (i := 916) (by decide +kernel)⟩
theorem lw_p34 : lw_okq (⟨"HourGreenModel", "packed", "()I"⟩, 18) := ⟨⟨by decide +kernel, by decide +kernel⟩, List.mem_of_getElem? (i := 693) (by decide +kernel), List.mem_of_getElem? (i := 923) (by decide +kernel), List.mem_of_getElem? (i := 924) (by decide +kernel)⟩
theorem lw_p35 : lw_okq (⟨"HourGreenModel", "marks", "()V"⟩, 18) := ⟨⟨by decide +kernel, by decide +kernel⟩, List.mem_of_getElem? (i := 693) (by decide +kernel), List.mem_of_getElem? (i := 927) (by decide +kernel), List.mem_of_getElem? (i := 928) (by decide +kernel)⟩
theorem lw_p36 : lw_okq (⟨"HourGreenModel", "lyingAll", "()I"⟩, 18) := ⟨⟨by decide +kernel, by decide +kernel⟩, List.mem_of_getElem? (i := 693) (by decide +kernel), List.mem_of_getElem? (i := 935) (by decide +kernel), List.mem_of_getElem? (i := 936) (by decide +kernel)⟩
theorem lw_p37 : lw_okq (⟨"HourGreenModel", "stirs", "(I)I"⟩, 18) := ⟨⟨by decide +kernel, by decide +kernel⟩, List.mem_of_getElem? (i := 693) (by decide +kernel), List.mem_of_getElem? (i := 939) (by decide +kernel), List.mem_of_getElem? (i := 940) (by decide +kernel)⟩
theorem lw_p38 : lw_okq (⟨"HourGreenModel", "worthOf", "(I)I"⟩, 18) := ⟨⟨by decide +kernel, by decide +kernel⟩, List.mem_of_getElem? (i := 693) (by decide +kernel), List.mem_of_getElem? (i := 953) (by decide +kernel), List.mem_of_getElem? (i := 954) (by decide +kernel)⟩
theorem lw_p39 : lw_okq (⟨"HourGreenModel", "isSo", "()Z"⟩, 18) := ⟨⟨by decide +kernel, by decide +kernel⟩, List.mem_of_getElem? (i := 693) (by decide +kernel), List.mem_of_getElem? (i := 977) (by decide +kernel), List.mem_of_getElem? (i := 978) (by decide +kernel)⟩
theorem lw_p40 : lw_okq (⟨"HourGreenModel", "turn", "(I)V"⟩, 18) := ⟨⟨by decide +kernel, by decide +kernel⟩, List.mem_of_getElem? (i := 693) (by decide +kernel), List.mem_of_getElem? (i := 997) (by decide +kernel), List.mem_of_getElem? (i := 998) (by decide +kernel)⟩
def lw_privs_3 : List (MethodName × Nat) := [(⟨"HourGreenModel", "looks", "()V"⟩, 18), (⟨"HourGreenModel", "aboveOf", "(I)I"⟩, 18), (⟨"HourGreenModel", "packed", "()I"⟩, 18), (⟨"HourGreenModel", "marks", "()V"⟩, 18), (⟨"HourGreenModel", "lyingAll", "()I"⟩, 18), (⟨"HourGreenModel", "stirs", "(I)I"⟩, 18), (⟨"HourGreenModel", "worthOf", "(I)I"⟩, 18), (⟨"HourGreenModel", "isSo", "()Z"⟩, 18), (⟨"HourGreenModel", "turn", "(I)V"⟩, 18)]
theorem lw_r3 : ∀ q ∈ lw_privs_3, lw_okq q := List.forall_mem_cons.mpr ⟨lw_p32, List.forall_mem_cons.mpr ⟨lw_p33, List.forall_mem_cons.mpr ⟨lw_p34, List.forall_mem_cons.mpr ⟨lw_p35, List.forall_mem_cons.mpr ⟨lw_p36, List.forall_mem_cons.mpr ⟨lw_p37, List.forall_mem_cons.mpr ⟨lw_p38, List.forall_mem_cons.mpr ⟨lw_p39, List.forall_mem_cons.mpr ⟨lw_p40, fun _ h => absurd h List.not_mem_nil⟩⟩⟩⟩⟩⟩⟩⟩⟩
def lw_privs : List (MethodName × Nat) := lw_privs_1 ++ (lw_privs_2 ++ (lw_privs_3))
def lw_tbl : List Cond := k2_sels lw_privs ++ tables_1
theorem lw_privs_ok : ∀ q ∈ lw_privs, lw_okq q := by
  show ∀ q ∈ lw_privs_1 ++ (lw_privs_2 ++ (lw_privs_3)), lw_okq q
  exact List.forall_mem_append.mpr ⟨lw_r1, List.forall_mem_append.mpr ⟨lw_r2, lw_r3⟩⟩
def RX0 : String := "HourGreen$Green"
def TX0 : u_T := fun k => match k with
  | 0 => ("HourGreen$Green", "plotCount", "I", false)
  | 1 => ("HourGreen$Green", "hourCount", "I", false)
  | 2 => ("HourGreen$Green", "year", "I", false)
  | 3 => ("HourGreen$Green", "stirred", "I", false)
  | 4 => ("HourGreen$Green", "frost", "J", false)
  | 5 => ("HourGreen$Green", "room", "[I", true)
  | 6 => ("HourGreen$Green", "kind", "[I", true)
  | 7 => ("HourGreen$Green", "worth", "[I", true)
  | 8 => ("HourGreen$Green", "place", "[I", true)
  | _ => ("HourGreen$Green", "depth", "[I", true)
def tyX0 : Nat → FieldType := fun k => match k with
  | 0 => .int
  | 1 => .int
  | 2 => .int
  | 3 => .int
  | 4 => .long
  | 5 => .array .int
  | 6 => .array .int
  | 7 => .array .int
  | 8 => .array .int
  | _ => .array .int
abbrev wsX00 : List Cond := u_ws RX0 TX0 10
theorem nmX0 : ∀ a, a < 10 → ∀ b, b < 10 → a ≠ b → (TX0 a).2.1 ≠ (TX0 b).2.1 := by decide +kernel
theorem tyX0_ok : ∀ k, k < 10 → parseFieldDescriptor (TX0 k).2.2.1 = some (tyX0 k) := by decide +kernel
abbrev cX0_init : ByteArray := prog_2_method_1_code
def yX0_init : MethodName := ⟨RX0, "<init>", "()V"⟩
abbrev cX0_clear : ByteArray := prog_2_method_2_code
def yX0_clear : MethodName := ⟨RX0, "clear", "()V"⟩
abbrev cX0_copyFrom : ByteArray := prog_2_method_3_code
def yX0_copyFrom : MethodName := ⟨RX0, "copyFrom", "(LHourGreen$Green;)V"⟩
abbrev cX0_addPlot : ByteArray := prog_2_method_4_code
def yX0_addPlot : MethodName := ⟨RX0, "addPlot", "(I)Z"⟩
abbrev cX0_addHour : ByteArray := prog_2_method_5_code
def yX0_addHour : MethodName := ⟨RX0, "addHour", "(II)Z"⟩
abbrev cX0_addLyingHour : ByteArray := prog_2_method_6_code
def yX0_addLyingHour : MethodName := ⟨RX0, "addLyingHour", "(III)Z"⟩
abbrev cX0_addFrost : ByteArray := prog_2_method_7_code
def yX0_addFrost : MethodName := ⟨RX0, "addFrost", "(I)Z"⟩
abbrev cX0_hasPlot : ByteArray := prog_2_method_8_code
def yX0_hasPlot : MethodName := ⟨RX0, "hasPlot", "(I)Z"⟩
abbrev cX0_hasHour : ByteArray := prog_2_method_9_code
def yX0_hasHour : MethodName := ⟨RX0, "hasHour", "(I)Z"⟩
abbrev cX0_roomOf : ByteArray := prog_2_method_10_code
def yX0_roomOf : MethodName := ⟨RX0, "roomOf", "(I)I"⟩
abbrev cX0_kindOf : ByteArray := prog_2_method_11_code
def yX0_kindOf : MethodName := ⟨RX0, "kindOf", "(I)I"⟩
abbrev cX0_worthOf : ByteArray := prog_2_method_12_code
def yX0_worthOf : MethodName := ⟨RX0, "worthOf", "(I)I"⟩
abbrev cX0_placeOf : ByteArray := prog_2_method_13_code
def yX0_placeOf : MethodName := ⟨RX0, "placeOf", "(I)I"⟩
abbrev cX0_depthOf : ByteArray := prog_2_method_14_code
def yX0_depthOf : MethodName := ⟨RX0, "depthOf", "(I)I"⟩
abbrev cX0_lies : ByteArray := prog_2_method_15_code
def yX0_lies : MethodName := ⟨RX0, "lies", "(I)Z"⟩
abbrev cX0_isFrost : ByteArray := prog_2_method_16_code
def yX0_isFrost : MethodName := ⟨RX0, "isFrost", "()Z"⟩
abbrev cX0_heightOf : ByteArray := prog_2_method_17_code
def yX0_heightOf : MethodName := ⟨RX0, "heightOf", "(I)I"⟩
abbrev cX0_hourAt : ByteArray := prog_2_method_18_code
def yX0_hourAt : MethodName := ⟨RX0, "hourAt", "(II)I"⟩
abbrev cX0_topOf : ByteArray := prog_2_method_19_code
def yX0_topOf : MethodName := ⟨RX0, "topOf", "(I)I"⟩
abbrev cX0_needAbove : ByteArray := prog_2_method_20_code
def yX0_needAbove : MethodName := ⟨RX0, "needAbove", "(II)I"⟩
abbrev cX0_needOf : ByteArray := prog_2_method_21_code
def yX0_needOf : MethodName := ⟨RX0, "needOf", "(I)I"⟩
abbrev cX0_freeIn : ByteArray := prog_2_method_22_code
def yX0_freeIn : MethodName := ⟨RX0, "freeIn", "(I)I"⟩
abbrev cX0_hasRoomFor : ByteArray := prog_2_method_23_code
def yX0_hasRoomFor : MethodName := ⟨RX0, "hasRoomFor", "(II)Z"⟩
abbrev cX0_canBePutIn : ByteArray := prog_2_method_24_code
def yX0_canBePutIn : MethodName := ⟨RX0, "canBePutIn", "(II)Z"⟩
abbrev cX0_setOnTop : ByteArray := prog_2_method_25_code
def yX0_setOnTop : MethodName := ⟨RX0, "setOnTop", "(II)V"⟩
abbrev cX0_setKind : ByteArray := prog_2_method_26_code
def yX0_setKind : MethodName := ⟨RX0, "setKind", "(II)V"⟩
abbrev cX0_deepen : ByteArray := prog_2_method_27_code
def yX0_deepen : MethodName := ⟨RX0, "deepen", "(I)V"⟩
abbrev cX0_isAbove : ByteArray := prog_2_method_28_code
def yX0_isAbove : MethodName := ⟨RX0, "isAbove", "(II)Z"⟩
abbrev cX0_bitsAbove : ByteArray := prog_2_method_29_code
def yX0_bitsAbove : MethodName := ⟨RX0, "bitsAbove", "(I)I"⟩
abbrev cX0_takeUp : ByteArray := prog_2_method_30_code
def yX0_takeUp : MethodName := ⟨RX0, "takeUp", "(I)I"⟩
abbrev cX0_isLoose : ByteArray := prog_2_method_31_code
def yX0_isLoose : MethodName := ⟨RX0, "isLoose", "(I)Z"⟩
abbrev cX0_rabbitPlot : ByteArray := prog_2_method_32_code
def yX0_rabbitPlot : MethodName := ⟨RX0, "rabbitPlot", "(I)I"⟩
abbrev cX0_passYears : ByteArray := prog_2_method_33_code
def yX0_passYears : MethodName := ⟨RX0, "passYears", "(I)I"⟩
abbrev cX0_visitsTo : ByteArray := prog_2_method_34_code
def yX0_visitsTo : MethodName := ⟨RX0, "visitsTo", "(II)I"⟩
abbrev cX0_throwsBorneBy : ByteArray := prog_2_method_35_code
def yX0_throwsBorneBy : MethodName := ⟨RX0, "throwsBorneBy", "(I)I"⟩
abbrev cX0_actByDraw : ByteArray := prog_2_method_36_code
def yX0_actByDraw : MethodName := ⟨RX0, "actByDraw", "(I)V"⟩
abbrev cX0_lyingCount : ByteArray := prog_2_method_37_code
def yX0_lyingCount : MethodName := ⟨RX0, "lyingCount", "()I"⟩
abbrev cX0_lyingWorth : ByteArray := prog_2_method_38_code
def yX0_lyingWorth : MethodName := ⟨RX0, "lyingWorth", "()I"⟩
abbrev cX0_setCount : ByteArray := prog_2_method_39_code
def yX0_setCount : MethodName := ⟨RX0, "setCount", "()I"⟩
abbrev cX0_allLie : ByteArray := prog_2_method_40_code
def yX0_allLie : MethodName := ⟨RX0, "allLie", "(I)Z"⟩
abbrev cX0_worthOfSet : ByteArray := prog_2_method_41_code
def yX0_worthOfSet : MethodName := ⟨RX0, "worthOfSet", "(I)I"⟩
abbrev cX0_stirOf : ByteArray := prog_2_method_42_code
def yX0_stirOf : MethodName := ⟨RX0, "stirOf", "(I)I"⟩
abbrev cX0_cheapestSet : ByteArray := prog_2_method_43_code
def yX0_cheapestSet : MethodName := ⟨RX0, "cheapestSet", "(I)I"⟩
def RX1 : String := "HourGreen$Odds"
def TX1 : u_T := fun k => match k with
  | 0 => ("HourGreen$Odds", "upper", "I", false)
  | 1 => ("HourGreen$Odds", "lower", "I", false)
  | _ => ("HourGreen$Odds", "cases", "[I", true)
def tyX1 : Nat → FieldType := fun k => match k with
  | 0 => .int
  | 1 => .int
  | _ => .array .int
abbrev wsX10 : List Cond := u_ws RX1 TX1 3
theorem nmX1 : ∀ a, a < 3 → ∀ b, b < 3 → a ≠ b → (TX1 a).2.1 ≠ (TX1 b).2.1 := by decide +kernel
theorem tyX1_ok : ∀ k, k < 3 → parseFieldDescriptor (TX1 k).2.2.1 = some (tyX1 k) := by decide +kernel
abbrev cX1_init : ByteArray := prog_3_method_1_code
def yX1_init : MethodName := ⟨RX1, "<init>", "()V"⟩
abbrev cX1_reckon : ByteArray := prog_3_method_2_code
def yX1_reckon : MethodName := ⟨RX1, "reckon", "(III)V"⟩
abbrev cX1_spread : ByteArray := prog_3_method_3_code
def yX1_spread : MethodName := ⟨RX1, "spread", "(II)V"⟩
abbrev cX1_commonDivisor : ByteArray := prog_3_method_4_code
def yX1_commonDivisor : MethodName := ⟨RX1, "commonDivisor", "(II)I"⟩
def RX2 : String := "HourGreen$Packing"
def TX2 : u_T := fun k => match k with
  | 0 => ("HourGreen$Packing", "best", "I", false)
  | 1 => ("HourGreen$Packing", "free", "[I", true)
  | 2 => ("HourGreen$Packing", "poorOnTop", "[Z", true)
  | 3 => ("HourGreen$Packing", "waiting", "[I", true)
  | 4 => ("HourGreen$Packing", "reach", "[I", true)
  | 5 => ("HourGreen$Packing", "tried", "[I", true)
  | _ => ("HourGreen$Packing", "chosen", "[I", true)
def tyX2 : Nat → FieldType := fun k => match k with
  | 0 => .int
  | 1 => .array .int
  | 2 => .array .boolean
  | 3 => .array .int
  | 4 => .array .int
  | 5 => .array .int
  | _ => .array .int
abbrev wsX20 : List Cond := u_ws RX2 TX2 7
theorem nmX2 : ∀ a, a < 7 → ∀ b, b < 7 → a ≠ b → (TX2 a).2.1 ≠ (TX2 b).2.1 := by decide +kernel
theorem tyX2_ok : ∀ k, k < 7 → parseFieldDescriptor (TX2 k).2.2.1 = some (tyX2 k) := by decide +kernel
abbrev cX2_init : ByteArray := prog_4_method_1_code
def yX2_init : MethodName := ⟨RX2, "<init>", "()V"⟩
abbrev cX2_mostOf : ByteArray := prog_4_method_2_code
def yX2_mostOf : MethodName := ⟨RX2, "mostOf", "(LHourGreen$Green;I)I"⟩
abbrev cX2_lookAhead : ByteArray := prog_4_method_3_code
def yX2_lookAhead : MethodName := ⟨RX2, "lookAhead", "(LHourGreen$Green;)V"⟩
abbrev cX2_placeOf : ByteArray := prog_4_method_4_code
def yX2_placeOf : MethodName := ⟨RX2, "placeOf", "(I)I"⟩
abbrev cX2_tryFrom : ByteArray := prog_4_method_5_code
def yX2_tryFrom : MethodName := ⟨RX2, "tryFrom", "(LHourGreen$Packing;LHourGreen$Green;II)V"⟩
abbrev cX2_tryIn : ByteArray := prog_4_method_6_code
def yX2_tryIn : MethodName := ⟨RX2, "tryIn", "(LHourGreen$Packing;LHourGreen$Green;III)V"⟩
abbrev cX2_hasTwinAhead : ByteArray := prog_4_method_7_code
def yX2_hasTwinAhead : MethodName := ⟨RX2, "hasTwinAhead", "(II)Z"⟩
abbrev cX2_choose : ByteArray := prog_4_method_8_code
def yX2_choose : MethodName := ⟨RX2, "choose", "(I)V"⟩
def RX3 : String := "HourGreen$Script"
def TX3 : u_T := fun k => match k with
  | 0 => ("HourGreen$Script", "length", "I", false)
  | 1 => ("HourGreen$Script", "letters", "[C", true)
  | _ => ("HourGreen$Script", "numbers", "[I", true)
def tyX3 : Nat → FieldType := fun k => match k with
  | 0 => .int
  | 1 => .array .char
  | _ => .array .int
abbrev wsX30 : List Cond := u_ws RX3 TX3 3
theorem nmX3 : ∀ a, a < 3 → ∀ b, b < 3 → a ≠ b → (TX3 a).2.1 ≠ (TX3 b).2.1 := by decide +kernel
theorem tyX3_ok : ∀ k, k < 3 → parseFieldDescriptor (TX3 k).2.2.1 = some (tyX3 k) := by decide +kernel
abbrev cX3_init : ByteArray := prog_5_method_1_code
def yX3_init : MethodName := ⟨RX3, "<init>", "()V"⟩
abbrev cX3_add : ByteArray := prog_5_method_2_code
def yX3_add : MethodName := ⟨RX3, "add", "(I)Z"⟩
abbrev cX3_empty : ByteArray := prog_5_method_3_code
def yX3_empty : MethodName := ⟨RX3, "empty", "()I"⟩
abbrev cX3_readInto : ByteArray := prog_5_method_4_code
def yX3_readInto : MethodName := ⟨RX3, "readInto", "(LHourGreen$Green;)I"⟩
abbrev cX3_letterAt : ByteArray := prog_5_method_5_code
def yX3_letterAt : MethodName := ⟨RX3, "letterAt", "(I)C"⟩
abbrev cX3_readItem : ByteArray := prog_5_method_6_code
def yX3_readItem : MethodName := ⟨RX3, "readItem", "(I)I"⟩
abbrev cX3_numbersOf : ByteArray := prog_5_method_7_code
def yX3_numbersOf : MethodName := ⟨RX3, "numbersOf", "(C)I"⟩
abbrev cX3_figuresAt : ByteArray := prog_5_method_8_code
def yX3_figuresAt : MethodName := ⟨RX3, "figuresAt", "(I)I"⟩
abbrev cX3_isFigure : ByteArray := prog_5_method_9_code
def yX3_isFigure : MethodName := ⟨RX3, "isFigure", "(C)Z"⟩
abbrev cX3_numberAt : ByteArray := prog_5_method_10_code
def yX3_numberAt : MethodName := ⟨RX3, "numberAt", "(II)I"⟩
abbrev cX3_tell : ByteArray := prog_5_method_11_code
def yX3_tell : MethodName := ⟨RX3, "tell", "(LHourGreen$Green;C)Z"⟩
def RX4 : String := "HourGreen$Shelf"
def TX4 : u_T := fun k => match k with
  | 0 => ("HourGreen$Shelf", "held", "I", false)
  | 1 => ("HourGreen$Shelf", "next", "I", false)
  | _ => ("HourGreen$Shelf", "greens", "[LHourGreen$Green;", true)
def tyX4 : Nat → FieldType := fun k => match k with
  | 0 => .int
  | 1 => .int
  | _ => .array (.object "HourGreen$Green")
abbrev wsX40 : List Cond := u_ws RX4 TX4 3
theorem nmX4 : ∀ a, a < 3 → ∀ b, b < 3 → a ≠ b → (TX4 a).2.1 ≠ (TX4 b).2.1 := by decide +kernel
theorem tyX4_ok : ∀ k, k < 3 → parseFieldDescriptor (TX4 k).2.2.1 = some (tyX4 k) := by decide +kernel
abbrev cX4_init : ByteArray := prog_6_method_1_code
def yX4_init : MethodName := ⟨RX4, "<init>", "(I)V"⟩
abbrev cX4_empty : ByteArray := prog_6_method_2_code
def yX4_empty : MethodName := ⟨RX4, "empty", "()V"⟩
abbrev cX4_isFull : ByteArray := prog_6_method_3_code
def yX4_isFull : MethodName := ⟨RX4, "isFull", "()Z"⟩
abbrev cX4_store : ByteArray := prog_6_method_4_code
def yX4_store : MethodName := ⟨RX4, "store", "(LHourGreen$Green;)V"⟩
abbrev cX4_fetchInto : ByteArray := prog_6_method_5_code
def yX4_fetchInto : MethodName := ⟨RX4, "fetchInto", "(LHourGreen$Green;)Z"⟩
abbrev cX4_slotAt : ByteArray := prog_6_method_6_code
def yX4_slotAt : MethodName := ⟨RX4, "slotAt", "(I)LHourGreen$Green;"⟩
def RX5 : String := "HourGreen$Sightings"
def TX5 : u_T := fun k => match k with
  | 0 => ("HourGreen$Sightings", "held", "I", false)
  | 1 => ("HourGreen$Sightings", "ahead", "[I", true)
  | 2 => ("HourGreen$Sightings", "hourSeen", "[I", true)
  | _ => ("HourGreen$Sightings", "inPorch", "[Z", true)
def tyX5 : Nat → FieldType := fun k => match k with
  | 0 => .int
  | 1 => .array .int
  | 2 => .array .int
  | _ => .array .boolean
abbrev wsX50 : List Cond := u_ws RX5 TX5 4
theorem nmX5 : ∀ a, a < 4 → ∀ b, b < 4 → a ≠ b → (TX5 a).2.1 ≠ (TX5 b).2.1 := by decide +kernel
theorem tyX5_ok : ∀ k, k < 4 → parseFieldDescriptor (TX5 k).2.2.1 = some (tyX5 k) := by decide +kernel
abbrev cX5_init : ByteArray := prog_7_method_1_code
def yX5_init : MethodName := ⟨RX5, "<init>", "()V"⟩
abbrev cX5_add : ByteArray := prog_7_method_2_code
def yX5_add : MethodName := ⟨RX5, "add", "(IIZ)Z"⟩
abbrev cX5_empty : ByteArray := prog_7_method_3_code
def yX5_empty : MethodName := ⟨RX5, "empty", "()I"⟩
abbrev cX5_comeTrueIn : ByteArray := prog_7_method_4_code
def yX5_comeTrueIn : MethodName := ⟨RX5, "comeTrueIn", "(LHourGreen$Green;)Z"⟩
def RX6 : String := "HourGreen"
def TX6 : u_T := fun k => match k with
  | 0 => ("HourGreen", "script", "LHourGreen$Script;", true)
  | 1 => ("HourGreen", "now", "LHourGreen$Green;", true)
  | 2 => ("HourGreen", "trial", "LHourGreen$Green;", true)
  | 3 => ("HourGreen", "past", "LHourGreen$Shelf;", true)
  | 4 => ("HourGreen", "kept", "LHourGreen$Shelf;", true)
  | 5 => ("HourGreen", "sightings", "LHourGreen$Sightings;", true)
  | 6 => ("HourGreen", "packing", "LHourGreen$Packing;", true)
  | _ => ("HourGreen", "odds", "LHourGreen$Odds;", true)
def tyX6 : Nat → FieldType := fun k => match k with
  | 0 => .object "HourGreen$Script"
  | 1 => .object "HourGreen$Green"
  | 2 => .object "HourGreen$Green"
  | 3 => .object "HourGreen$Shelf"
  | 4 => .object "HourGreen$Shelf"
  | 5 => .object "HourGreen$Sightings"
  | 6 => .object "HourGreen$Packing"
  | _ => .object "HourGreen$Odds"
abbrev wsX60 : List Cond := u_ws RX6 TX6 8
theorem nmX6 : ∀ a, a < 8 → ∀ b, b < 8 → a ≠ b → (TX6 a).2.1 ≠ (TX6 b).2.1 := by decide +kernel
theorem tyX6_ok : ∀ k, k < 8 → parseFieldDescriptor (TX6 k).2.2.1 = some (tyX6 k) := by decide +kernel
abbrev cX6_init : ByteArray := prog_1_method_1_code
def yX6_init : MethodName := ⟨RX6, "<init>", "()V"⟩
abbrev cX6_write : ByteArray := prog_1_method_2_code
def yX6_write : MethodName := ⟨RX6, "write", "(I)I"⟩
abbrev cX6_wipe : ByteArray := prog_1_method_3_code
def yX6_wipe : MethodName := ⟨RX6, "wipe", "()I"⟩
abbrev cX6_fault : ByteArray := prog_1_method_4_code
def yX6_fault : MethodName := ⟨RX6, "fault", "()I"⟩
abbrev cX6_lay : ByteArray := prog_1_method_5_code
def yX6_lay : MethodName := ⟨RX6, "lay", "()I"⟩
abbrev cX6_plot : ByteArray := prog_1_method_6_code
def yX6_plot : MethodName := ⟨RX6, "plot", "(II)I"⟩
abbrev cX6_hour : ByteArray := prog_1_method_7_code
def yX6_hour : MethodName := ⟨RX6, "hour", "(II)I"⟩
abbrev cX6_fits : ByteArray := prog_1_method_8_code
def yX6_fits : MethodName := ⟨RX6, "fits", "(II)I"⟩
abbrev cX6_pass : ByteArray := prog_1_method_9_code
def yX6_pass : MethodName := ⟨RX6, "pass", "(I)I"⟩
abbrev cX6_put : ByteArray := prog_1_method_10_code
def yX6_put : MethodName := ⟨RX6, "put", "(II)I"⟩
abbrev cX6_up : ByteArray := prog_1_method_11_code
def yX6_up : MethodName := ⟨RX6, "up", "(I)I"⟩
abbrev cX6_dig : ByteArray := prog_1_method_12_code
def yX6_dig : MethodName := ⟨RX6, "dig", "(I)I"⟩
abbrev cX6_undo : ByteArray := prog_1_method_13_code
def yX6_undo : MethodName := ⟨RX6, "undo", "()I"⟩
abbrev cX6_out : ByteArray := prog_1_method_14_code
def yX6_out : MethodName := ⟨RX6, "out", "(I)I"⟩
abbrev cX6_behind : ByteArray := prog_1_method_15_code
def yX6_behind : MethodName := ⟨RX6, "behind", "(II)I"⟩
abbrev cX6_above : ByteArray := prog_1_method_16_code
def yX6_above : MethodName := ⟨RX6, "above", "(I)I"⟩
abbrev cX6_packs : ByteArray := prog_1_method_17_code
def yX6_packs : MethodName := ⟨RX6, "packs", "(I)I"⟩
abbrev cX6_stir : ByteArray := prog_1_method_18_code
def yX6_stir : MethodName := ⟨RX6, "stir", "(I)I"⟩
abbrev cX6_cheap : ByteArray := prog_1_method_19_code
def yX6_cheap : MethodName := ⟨RX6, "cheap", "(II)I"⟩
abbrev cX6_deeper : ByteArray := prog_1_method_20_code
def yX6_deeper : MethodName := ⟨RX6, "deeper", "(I)I"⟩
abbrev cX6_years : ByteArray := prog_1_method_21_code
def yX6_years : MethodName := ⟨RX6, "years", "(I)I"⟩
abbrev cX6_seen : ByteArray := prog_1_method_22_code
def yX6_seen : MethodName := ⟨RX6, "seen", "(III)I"⟩
abbrev cX6_forget : ByteArray := prog_1_method_23_code
def yX6_forget : MethodName := ⟨RX6, "forget", "()I"⟩
abbrev cX6_plots : ByteArray := prog_1_method_24_code
def yX6_plots : MethodName := ⟨RX6, "plots", "(I)I"⟩
abbrev cX6_kinds : ByteArray := prog_1_method_25_code
def yX6_kinds : MethodName := ⟨RX6, "kinds", "(I)I"⟩
abbrev cX6_likely : ByteArray := prog_1_method_26_code
def yX6_likely : MethodName := ⟨RX6, "likely", "(IIII)I"⟩
abbrev cX6_decade : ByteArray := prog_1_method_27_code
def yX6_decade : MethodName := ⟨RX6, "decade", "(III)I"⟩
abbrev cX6_keep : ByteArray := prog_1_method_28_code
def yX6_keep : MethodName := ⟨RX6, "keep", "()I"⟩
abbrev cX6_back : ByteArray := prog_1_method_29_code
def yX6_back : MethodName := ⟨RX6, "back", "()I"⟩
abbrev cX6_count : ByteArray := prog_1_method_30_code
def yX6_count : MethodName := ⟨RX6, "count", "(I)I"⟩
abbrev cX6_isWithin : ByteArray := prog_1_method_31_code
def yX6_isWithin : MethodName := ⟨RX6, "isWithin", "(III)Z"⟩
abbrev cX6_drawOf : ByteArray := prog_1_method_32_code
def yX6_drawOf : MethodName := ⟨RX6, "drawOf", "(II)I"⟩
def RX7 : String := "HourGreenModel"
def TX7 : u_T := fun k => match k with
  | 0 => ("HourGreenModel", "text", "[I", true)
  | 1 => ("HourGreenModel", "typed", "I", false)
  | 2 => ("HourGreenModel", "told", "[I", true)
  | 3 => ("HourGreenModel", "draft", "[I", true)
  | 4 => ("HourGreenModel", "s", "[I", true)
  | 5 => ("HourGreenModel", "past", "[I", true)
  | 6 => ("HourGreenModel", "known", "I", false)
  | 7 => ("HourGreenModel", "images", "[I", true)
  | 8 => ("HourGreenModel", "kept", "I", false)
  | 9 => ("HourGreenModel", "notes", "[I", true)
  | 10 => ("HourGreenModel", "noted", "I", false)
  | 11 => ("HourGreenModel", "at", "I", false)
  | 12 => ("HourGreenModel", "aside", "[I", true)
  | 13 => ("HourGreenModel", "spot", "[I", true)
  | 14 => ("HourGreenModel", "choice", "[I", true)
  | 15 => ("HourGreenModel", "tried", "[I", true)
  | 16 => ("HourGreenModel", "rest", "[I", true)
  | _ => ("HourGreenModel", "trial", "[I", true)
def tyX7 : Nat → FieldType := fun k => match k with
  | 0 => .array .int
  | 1 => .int
  | 2 => .array .int
  | 3 => .array .int
  | 4 => .array .int
  | 5 => .array .int
  | 6 => .int
  | 7 => .array .int
  | 8 => .int
  | 9 => .array .int
  | 10 => .int
  | 11 => .int
  | 12 => .array .int
  | 13 => .array .int
  | 14 => .array .int
  | 15 => .array .int
  | 16 => .array .int
  | _ => .array .int
abbrev wsX70 : List Cond := u_ws RX7 TX7 18
theorem nmX7 : ∀ a, a < 18 → ∀ b, b < 18 → a ≠ b → (TX7 a).2.1 ≠ (TX7 b).2.1 := by decide +kernel
theorem tyX7_ok : ∀ k, k < 18 → parseFieldDescriptor (TX7 k).2.2.1 = some (tyX7 k) := by decide +kernel
abbrev cX7_init : ByteArray := prog_9_method_1_code
def yX7_init : MethodName := ⟨RX7, "<init>", "()V"⟩
abbrev cX7_in : ByteArray := prog_9_method_3_code
def yX7_in : MethodName := ⟨RX7, "in", "(III)Z"⟩
abbrev cX7_has : ByteArray := prog_9_method_4_code
def yX7_has : MethodName := ⟨RX7, "has", "(II)Z"⟩
abbrev cX7_ones : ByteArray := prog_9_method_5_code
def yX7_ones : MethodName := ⟨RX7, "ones", "(I)I"⟩
abbrev cX7_isPlot : ByteArray := prog_9_method_6_code
def yX7_isPlot : MethodName := ⟨RX7, "isPlot", "(I)Z"⟩
abbrev cX7_isHour : ByteArray := prog_9_method_7_code
def yX7_isHour : MethodName := ⟨RX7, "isHour", "(I)Z"⟩
abbrev cX7_manyIn : ByteArray := prog_9_method_8_code
def yX7_manyIn : MethodName := ⟨RX7, "manyIn", "(I)I"⟩
abbrev cX7_lying : ByteArray := prog_9_method_9_code
def yX7_lying : MethodName := ⟨RX7, "lying", "(II)I"⟩
abbrev cX7_topOf : ByteArray := prog_9_method_10_code
def yX7_topOf : MethodName := ⟨RX7, "topOf", "(I)I"⟩
abbrev cX7_needs : ByteArray := prog_9_method_11_code
def yX7_needs : MethodName := ⟨RX7, "needs", "(II)I"⟩
abbrev cX7_kindOf : ByteArray := prog_9_method_12_code
def yX7_kindOf : MethodName := ⟨RX7, "kindOf", "(IZ)I"⟩
abbrev cX7_allNeeds : ByteArray := prog_9_method_13_code
def yX7_allNeeds : MethodName := ⟨RX7, "allNeeds", "(IZ)I"⟩
abbrev cX7_isFit : ByteArray := prog_9_method_14_code
def yX7_isFit : MethodName := ⟨RX7, "isFit", "(IIZ)Z"⟩
abbrev cX7_lays : ByteArray := prog_9_method_15_code
def yX7_lays : MethodName := ⟨RX7, "lays", "(II)V"⟩
abbrev cX7_takes : ByteArray := prog_9_method_16_code
def yX7_takes : MethodName := ⟨RX7, "takes", "(I)I"⟩
abbrev cX7_write : ByteArray := prog_9_method_17_code
def yX7_write : MethodName := ⟨RX7, "write", "(I)I"⟩
abbrev cX7_wipe : ByteArray := prog_9_method_18_code
def yX7_wipe : MethodName := ⟨RX7, "wipe", "()I"⟩
abbrev cX7_letterAt : ByteArray := prog_9_method_19_code
def yX7_letterAt : MethodName := ⟨RX7, "letterAt", "(I)I"⟩
abbrev cX7_isFigure : ByteArray := prog_9_method_20_code
def yX7_isFigure : MethodName := ⟨RX7, "isFigure", "(I)Z"⟩
abbrev cX7_number : ByteArray := prog_9_method_21_code
def yX7_number : MethodName := ⟨RX7, "number", "(III)I"⟩
abbrev cX7_holds : ByteArray := prog_9_method_22_code
def yX7_holds : MethodName := ⟨RX7, "holds", "()V"⟩
abbrev cX7_newHour : ByteArray := prog_9_method_23_code
def yX7_newHour : MethodName := ⟨RX7, "newHour", "(III)V"⟩
abbrev cX7_readsHour : ByteArray := prog_9_method_24_code
def yX7_readsHour : MethodName := ⟨RX7, "readsHour", "(Z)Z"⟩
abbrev cX7_readsItem : ByteArray := prog_9_method_25_code
def yX7_readsItem : MethodName := ⟨RX7, "readsItem", "(I)Z"⟩
abbrev cX7_readsAll : ByteArray := prog_9_method_26_code
def yX7_readsAll : MethodName := ⟨RX7, "readsAll", "()I"⟩
abbrev cX7_fault : ByteArray := prog_9_method_27_code
def yX7_fault : MethodName := ⟨RX7, "fault", "()I"⟩
abbrev cX7_lay : ByteArray := prog_9_method_28_code
def yX7_lay : MethodName := ⟨RX7, "lay", "()I"⟩
abbrev cX7_plot : ByteArray := prog_9_method_29_code
def yX7_plot : MethodName := ⟨RX7, "plot", "(II)I"⟩
abbrev cX7_hour : ByteArray := prog_9_method_30_code
def yX7_hour : MethodName := ⟨RX7, "hour", "(II)I"⟩
abbrev cX7_fits : ByteArray := prog_9_method_31_code
def yX7_fits : MethodName := ⟨RX7, "fits", "(II)I"⟩
abbrev cX7_isFrost : ByteArray := prog_9_method_32_code
def yX7_isFrost : MethodName := ⟨RX7, "isFrost", "()Z"⟩
abbrev cX7_passes : ByteArray := prog_9_method_33_code
def yX7_passes : MethodName := ⟨RX7, "passes", "(Z)Z"⟩
abbrev cX7_keeps : ByteArray := prog_9_method_34_code
def yX7_keeps : MethodName := ⟨RX7, "keeps", "()V"⟩
abbrev cX7_pass : ByteArray := prog_9_method_35_code
def yX7_pass : MethodName := ⟨RX7, "pass", "(I)I"⟩
abbrev cX7_mayPut : ByteArray := prog_9_method_36_code
def yX7_mayPut : MethodName := ⟨RX7, "mayPut", "(II)Z"⟩
abbrev cX7_put : ByteArray := prog_9_method_37_code
def yX7_put : MethodName := ⟨RX7, "put", "(II)I"⟩
abbrev cX7_up : ByteArray := prog_9_method_38_code
def yX7_up : MethodName := ⟨RX7, "up", "(I)I"⟩
abbrev cX7_dig : ByteArray := prog_9_method_39_code
def yX7_dig : MethodName := ⟨RX7, "dig", "(I)I"⟩
abbrev cX7_undo : ByteArray := prog_9_method_40_code
def yX7_undo : MethodName := ⟨RX7, "undo", "()I"⟩
abbrev cX7_looks : ByteArray := prog_9_method_41_code
def yX7_looks : MethodName := ⟨RX7, "looks", "()V"⟩
abbrev cX7_lets : ByteArray := prog_9_method_42_code
def yX7_lets : MethodName := ⟨RX7, "lets", "()V"⟩
abbrev cX7_out : ByteArray := prog_9_method_43_code
def yX7_out : MethodName := ⟨RX7, "out", "(I)I"⟩
abbrev cX7_behind : ByteArray := prog_9_method_44_code
def yX7_behind : MethodName := ⟨RX7, "behind", "(II)I"⟩
abbrev cX7_aboveOf : ByteArray := prog_9_method_45_code
def yX7_aboveOf : MethodName := ⟨RX7, "aboveOf", "(I)I"⟩
abbrev cX7_above : ByteArray := prog_9_method_46_code
def yX7_above : MethodName := ⟨RX7, "above", "(I)I"⟩
abbrev cX7_marks : ByteArray := prog_9_method_47_code
def yX7_marks : MethodName := ⟨RX7, "marks", "()V"⟩
abbrev cX7_packed : ByteArray := prog_9_method_48_code
def yX7_packed : MethodName := ⟨RX7, "packed", "()I"⟩
abbrev cX7_packs : ByteArray := prog_9_method_49_code
def yX7_packs : MethodName := ⟨RX7, "packs", "(I)I"⟩
abbrev cX7_lyingAll : ByteArray := prog_9_method_50_code
def yX7_lyingAll : MethodName := ⟨RX7, "lyingAll", "()I"⟩
abbrev cX7_stirs : ByteArray := prog_9_method_51_code
def yX7_stirs : MethodName := ⟨RX7, "stirs", "(I)I"⟩
abbrev cX7_stir : ByteArray := prog_9_method_52_code
def yX7_stir : MethodName := ⟨RX7, "stir", "(I)I"⟩
abbrev cX7_worthOf : ByteArray := prog_9_method_53_code
def yX7_worthOf : MethodName := ⟨RX7, "worthOf", "(I)I"⟩
abbrev cX7_cheap : ByteArray := prog_9_method_54_code
def yX7_cheap : MethodName := ⟨RX7, "cheap", "(II)I"⟩
abbrev cX7_deeper : ByteArray := prog_9_method_55_code
def yX7_deeper : MethodName := ⟨RX7, "deeper", "(I)I"⟩
abbrev cX7_years : ByteArray := prog_9_method_56_code
def yX7_years : MethodName := ⟨RX7, "years", "(I)I"⟩
abbrev cX7_seen : ByteArray := prog_9_method_57_code
def yX7_seen : MethodName := ⟨RX7, "seen", "(III)I"⟩
abbrev cX7_forget : ByteArray := prog_9_method_58_code
def yX7_forget : MethodName := ⟨RX7, "forget", "()I"⟩
abbrev cX7_isSo : ByteArray := prog_9_method_59_code
def yX7_isSo : MethodName := ⟨RX7, "isSo", "()Z"⟩
abbrev cX7_plots : ByteArray := prog_9_method_60_code
def yX7_plots : MethodName := ⟨RX7, "plots", "(I)I"⟩
abbrev cX7_kinds : ByteArray := prog_9_method_61_code
def yX7_kinds : MethodName := ⟨RX7, "kinds", "(I)I"⟩
abbrev cX7_likely : ByteArray := prog_9_method_62_code
def yX7_likely : MethodName := ⟨RX7, "likely", "(IIII)I"⟩
abbrev cX7_turn : ByteArray := prog_9_method_63_code
def yX7_turn : MethodName := ⟨RX7, "turn", "(I)V"⟩
abbrev cX7_decade : ByteArray := prog_9_method_64_code
def yX7_decade : MethodName := ⟨RX7, "decade", "(III)I"⟩
abbrev cX7_keep : ByteArray := prog_9_method_65_code
def yX7_keep : MethodName := ⟨RX7, "keep", "()I"⟩
abbrev cX7_back : ByteArray := prog_9_method_66_code
def yX7_back : MethodName := ⟨RX7, "back", "()I"⟩
abbrev cX7_count : ByteArray := prog_9_method_67_code
def yX7_count : MethodName := ⟨RX7, "count", "(I)I"⟩
def RJ6 : String := "java/lang/Integer"
def TJ6 : u_T := fun k => match k with
  | _ => ("", "", "", false)
def tyJ6 : Nat → FieldType := fun k => match k with
  | _ => .int
abbrev wsJ60 : List Cond := u_ws RJ6 TJ6 0
theorem nmJ6 : ∀ a, a < 0 → ∀ b, b < 0 → a ≠ b → (TJ6 a).2.1 ≠ (TJ6 b).2.1 := by decide +kernel
theorem tyJ6_ok : ∀ k, k < 0 → parseFieldDescriptor (TJ6 k).2.2.1 = some (tyJ6 k) := by decide +kernel
abbrev cJ6_bitCount_0f7a4 : ByteArray := prog_10_method_49_code
def yJ6_bitCount_0f7a4 : MethodName := ⟨RJ6, "bitCount", "(I)I"⟩
def RJ9 : String := "java/lang/Math"
def TJ9 : u_T := fun k => match k with
  | _ => ("", "", "", false)
def tyJ9 : Nat → FieldType := fun k => match k with
  | _ => .int
abbrev wsJ90 : List Cond := u_ws RJ9 TJ9 0
theorem nmJ9 : ∀ a, a < 0 → ∀ b, b < 0 → a ≠ b → (TJ9 a).2.1 ≠ (TJ9 b).2.1 := by decide +kernel
theorem tyJ9_ok : ∀ k, k < 0 → parseFieldDescriptor (TJ9 k).2.2.1 = some (tyJ9 k) := by decide +kernel
abbrev cJ9_max_7cf53 : ByteArray := prog_11_method_65_code
def yJ9_max_7cf53 : MethodName := ⟨RJ9, "max", "(II)I"⟩
def RJ0 : String := "java/lang/String"
def TJ0 : u_T := fun k => match k with
  | _ => ("", "", "", false)
def tyJ0 : Nat → FieldType := fun k => match k with
  | _ => .int
abbrev wsJ00 : List Cond := u_ws RJ0 TJ0 0
theorem nmJ0 : ∀ a, a < 0 → ∀ b, b < 0 → a ≠ b → (TJ0 a).2.1 ≠ (TJ0 b).2.1 := by decide +kernel
theorem tyJ0_ok : ∀ k, k < 0 → parseFieldDescriptor (TJ0 k).2.2.1 = some (tyJ0 k) := by decide +kernel
abbrev cJ0_length_8abf5 : ByteArray := prog_12_method_54_code
def yJ0_length_8abf5 : MethodName := ⟨RJ0, "length", "()I"⟩
abbrev cJ0_charAt_5068e : ByteArray := prog_12_method_56_code
def yJ0_charAt_5068e : MethodName := ⟨RJ0, "charAt", "(I)C"⟩
abbrev cJ0_coder_7d493 : ByteArray := prog_12_method_152_code
def yJ0_coder_7d493 : MethodName := ⟨RJ0, "coder", "()B"⟩
abbrev cJ0_isLatin1_aae02 : ByteArray := prog_12_method_154_code
def yJ0_isLatin1_aae02 : MethodName := ⟨RJ0, "isLatin1", "()Z"⟩
abbrev cJ0_checkIndex_df160 : ByteArray := prog_12_method_155_code
def yJ0_checkIndex_df160 : MethodName := ⟨RJ0, "checkIndex", "(II)V"⟩
def RJ1 : String := "java/lang/StringLatin1"
def TJ1 : u_T := fun k => match k with
  | _ => ("", "", "", false)
def tyJ1 : Nat → FieldType := fun k => match k with
  | _ => .int
abbrev wsJ10 : List Cond := u_ws RJ1 TJ1 0
theorem nmJ1 : ∀ a, a < 0 → ∀ b, b < 0 → a ≠ b → (TJ1 a).2.1 ≠ (TJ1 b).2.1 := by decide +kernel
theorem tyJ1_ok : ∀ k, k < 0 → parseFieldDescriptor (TJ1 k).2.2.1 = some (tyJ1 k) := by decide +kernel
abbrev cJ1_charAt_3b067 : ByteArray := prog_13_method_2_code
def yJ1_charAt_3b067 : MethodName := ⟨RJ1, "charAt", "([BI)C"⟩
def RJ2 : String := "java/lang/StringUTF16"
def TJ2 : u_T := fun k => match k with
  | _ => ("", "", "", false)
def tyJ2 : Nat → FieldType := fun k => match k with
  | _ => .int
abbrev wsJ20 : List Cond := u_ws RJ2 TJ2 0
theorem nmJ2 : ∀ a, a < 0 → ∀ b, b < 0 → a ≠ b → (TJ2 a).2.1 ≠ (TJ2 b).2.1 := by decide +kernel
theorem tyJ2_ok : ∀ k, k < 0 → parseFieldDescriptor (TJ2 k).2.2.1 = some (tyJ2 k) := by decide +kernel
abbrev cJ2_getChar_3b067 : ByteArray := prog_14_method_5_code
def yJ2_getChar_3b067 : MethodName := ⟨RJ2, "getChar", "([BI)C"⟩
abbrev cJ2_length_9d52b : ByteArray := prog_14_method_6_code
def yJ2_length_9d52b : MethodName := ⟨RJ2, "length", "([B)I"⟩
abbrev cJ2_charAt_3b067 : ByteArray := prog_14_method_83_code
def yJ2_charAt_3b067 : MethodName := ⟨RJ2, "charAt", "([BI)C"⟩
abbrev cJ2_checkIndex_2214a : ByteArray := prog_14_method_91_code
def yJ2_checkIndex_2214a : MethodName := ⟨RJ2, "checkIndex", "(I[B)V"⟩
def RJ3 : String := "jdk/internal/util/Preconditions"
def TJ3 : u_T := fun k => match k with
  | _ => ("", "", "", false)
def tyJ3 : Nat → FieldType := fun k => match k with
  | _ => .int
abbrev wsJ30 : List Cond := u_ws RJ3 TJ3 0
theorem nmJ3 : ∀ a, a < 0 → ∀ b, b < 0 → a ≠ b → (TJ3 a).2.1 ≠ (TJ3 b).2.1 := by decide +kernel
theorem tyJ3_ok : ∀ k, k < 0 → parseFieldDescriptor (TJ3 k).2.2.1 = some (tyJ3 k) := by decide +kernel
abbrev cJ3_checkIndex_8e157 : ByteArray := prog_15_method_11_code
def yJ3_checkIndex_8e157 : MethodName := ⟨RJ3, "checkIndex", "(IILjava/util/function/BiFunction;)I"⟩
def RL : String := "HourGreenLaw"
abbrev cL_law : ByteArray := code
def yL_law : MethodName := ⟨RL, "law", "([I)Z"⟩
abbrev vwCl : List vw_C := [(RX0, TX0, 10), (RX1, TX1, 3), (RX2, TX2, 7), (RX3, TX3, 3), (RX4, TX4, 3), (RX5, TX5, 4), (RX6, TX6, 8), (RX7, TX7, 18)]
end
section
theorem dX0_init_0 : decode cX0_init 0 = .ok (.aload_n 0, 1) := by decide +kernel
theorem dX0_init_1 : decode cX0_init 1 = .ok (.invokespecial 3, 3) := by decide +kernel
theorem dX0_init_4 : decode cX0_init 4 = .ok (.aload_n 0, 1) := by decide +kernel
theorem dX0_init_5 : decode cX0_init 5 = .ok (.iconst 5, 1) := by decide +kernel
theorem dX0_init_6 : decode cX0_init 6 = .ok (.newarray .int, 2) := by decide +kernel
theorem dX0_init_8 : decode cX0_init 8 = .ok (.putfield 9, 3) := by decide +kernel
theorem dX0_init_11 : decode cX0_init 11 = .ok (.aload_n 0, 1) := by decide +kernel
theorem dX0_init_12 : decode cX0_init 12 = .ok (.bipush 7, 2) := by decide +kernel
theorem dX0_init_14 : decode cX0_init 14 = .ok (.newarray .int, 2) := by decide +kernel
theorem dX0_init_16 : decode cX0_init 16 = .ok (.putfield 15, 3) := by decide +kernel
theorem dX0_init_19 : decode cX0_init 19 = .ok (.aload_n 0, 1) := by decide +kernel
theorem dX0_init_20 : decode cX0_init 20 = .ok (.bipush 7, 2) := by decide +kernel
theorem dX0_init_22 : decode cX0_init 22 = .ok (.newarray .int, 2) := by decide +kernel
theorem dX0_init_24 : decode cX0_init 24 = .ok (.putfield 18, 3) := by decide +kernel
theorem dX0_init_27 : decode cX0_init 27 = .ok (.aload_n 0, 1) := by decide +kernel
theorem dX0_init_28 : decode cX0_init 28 = .ok (.bipush 7, 2) := by decide +kernel
theorem dX0_init_30 : decode cX0_init 30 = .ok (.newarray .int, 2) := by decide +kernel
theorem dX0_init_32 : decode cX0_init 32 = .ok (.putfield 21, 3) := by decide +kernel
theorem dX0_init_35 : decode cX0_init 35 = .ok (.aload_n 0, 1) := by decide +kernel
theorem dX0_init_36 : decode cX0_init 36 = .ok (.bipush 7, 2) := by decide +kernel
theorem dX0_init_38 : decode cX0_init 38 = .ok (.newarray .int, 2) := by decide +kernel
theorem dX0_init_40 : decode cX0_init 40 = .ok (.putfield 24, 3) := by decide +kernel
theorem dX0_init_43 : decode cX0_init 43 = .ok (.aload_n 0, 1) := by decide +kernel
theorem dX0_init_44 : decode cX0_init 44 = .ok (.invokevirtual 27, 3) := by decide +kernel
theorem dX0_init_47 : decode cX0_init 47 = .ok (.return_, 1) := by decide +kernel
theorem dX0_clear_0 : decode cX0_clear 0 = .ok (.aload_n 0, 1) := by decide +kernel
theorem dX0_clear_1 : decode cX0_clear 1 = .ok (.iconst 0, 1) := by decide +kernel
theorem dX0_clear_2 : decode cX0_clear 2 = .ok (.putfield 30, 3) := by decide +kernel
theorem dX0_clear_5 : decode cX0_clear 5 = .ok (.aload_n 0, 1) := by decide +kernel
theorem dX0_clear_6 : decode cX0_clear 6 = .ok (.iconst 0, 1) := by decide +kernel
theorem dX0_clear_7 : decode cX0_clear 7 = .ok (.putfield 34, 3) := by decide +kernel
theorem dX0_clear_10 : decode cX0_clear 10 = .ok (.aload_n 0, 1) := by decide +kernel
theorem dX0_clear_11 : decode cX0_clear 11 = .ok (.iconst 0, 1) := by decide +kernel
theorem dX0_clear_12 : decode cX0_clear 12 = .ok (.putfield 37, 3) := by decide +kernel
theorem dX0_clear_15 : decode cX0_clear 15 = .ok (.aload_n 0, 1) := by decide +kernel
theorem dX0_clear_16 : decode cX0_clear 16 = .ok (.iconst 0, 1) := by decide +kernel
theorem dX0_clear_17 : decode cX0_clear 17 = .ok (.putfield 40, 3) := by decide +kernel
theorem dX0_clear_20 : decode cX0_clear 20 = .ok (.aload_n 0, 1) := by decide +kernel
theorem dX0_clear_21 : decode cX0_clear 21 = .ok (.lconst 0, 1) := by decide +kernel
theorem dX0_clear_22 : decode cX0_clear 22 = .ok (.putfield 43, 3) := by decide +kernel
theorem dX0_clear_25 : decode cX0_clear 25 = .ok (.iconst 0, 1) := by decide +kernel
theorem dX0_clear_26 : decode cX0_clear 26 = .ok (.istore_n 1, 1) := by decide +kernel
theorem dX0_clear_27 : decode cX0_clear 27 = .ok (.iload_n 1, 1) := by decide +kernel
theorem dX0_clear_28 : decode cX0_clear 28 = .ok (.bipush 7, 2) := by decide +kernel
theorem dX0_clear_30 : decode cX0_clear 30 = .ok (.if_icmp .ge 38, 3) := by decide +kernel
theorem dX0_clear_33 : decode cX0_clear 33 = .ok (.aload_n 0, 1) := by decide +kernel
theorem dX0_clear_34 : decode cX0_clear 34 = .ok (.getfield 15, 3) := by decide +kernel
theorem dX0_clear_37 : decode cX0_clear 37 = .ok (.iload_n 1, 1) := by decide +kernel
theorem dX0_clear_38 : decode cX0_clear 38 = .ok (.iconst 0, 1) := by decide +kernel
theorem dX0_clear_39 : decode cX0_clear 39 = .ok (.iastore, 1) := by decide +kernel
theorem dX0_clear_40 : decode cX0_clear 40 = .ok (.aload_n 0, 1) := by decide +kernel
theorem dX0_clear_41 : decode cX0_clear 41 = .ok (.getfield 18, 3) := by decide +kernel
theorem dX0_clear_44 : decode cX0_clear 44 = .ok (.iload_n 1, 1) := by decide +kernel
theorem dX0_clear_45 : decode cX0_clear 45 = .ok (.iconst 0, 1) := by decide +kernel
theorem dX0_clear_46 : decode cX0_clear 46 = .ok (.iastore, 1) := by decide +kernel
theorem dX0_clear_47 : decode cX0_clear 47 = .ok (.aload_n 0, 1) := by decide +kernel
theorem dX0_clear_48 : decode cX0_clear 48 = .ok (.getfield 21, 3) := by decide +kernel
theorem dX0_clear_51 : decode cX0_clear 51 = .ok (.iload_n 1, 1) := by decide +kernel
theorem dX0_clear_52 : decode cX0_clear 52 = .ok (.bipush (-4), 2) := by decide +kernel
theorem dX0_clear_54 : decode cX0_clear 54 = .ok (.iastore, 1) := by decide +kernel
theorem dX0_clear_55 : decode cX0_clear 55 = .ok (.aload_n 0, 1) := by decide +kernel
theorem dX0_clear_56 : decode cX0_clear 56 = .ok (.getfield 24, 3) := by decide +kernel
theorem dX0_clear_59 : decode cX0_clear 59 = .ok (.iload_n 1, 1) := by decide +kernel
theorem dX0_clear_60 : decode cX0_clear 60 = .ok (.iconst 0, 1) := by decide +kernel
theorem dX0_clear_61 : decode cX0_clear 61 = .ok (.iastore, 1) := by decide +kernel
theorem dX0_clear_62 : decode cX0_clear 62 = .ok (.iinc 1 1, 3) := by decide +kernel
theorem dX0_clear_65 : decode cX0_clear 65 = .ok (.goto (-38), 3) := by decide +kernel
theorem dX0_clear_68 : decode cX0_clear 68 = .ok (.return_, 1) := by decide +kernel
theorem dX0_copyFrom_0 : decode cX0_copyFrom 0 = .ok (.aload_n 0, 1) := by decide +kernel
theorem dX0_copyFrom_1 : decode cX0_copyFrom 1 = .ok (.aload_n 1, 1) := by decide +kernel
theorem dX0_copyFrom_2 : decode cX0_copyFrom 2 = .ok (.getfield 30, 3) := by decide +kernel
theorem dX0_copyFrom_5 : decode cX0_copyFrom 5 = .ok (.putfield 30, 3) := by decide +kernel
theorem dX0_copyFrom_8 : decode cX0_copyFrom 8 = .ok (.aload_n 0, 1) := by decide +kernel
theorem dX0_copyFrom_9 : decode cX0_copyFrom 9 = .ok (.aload_n 1, 1) := by decide +kernel
theorem dX0_copyFrom_10 : decode cX0_copyFrom 10 = .ok (.getfield 34, 3) := by decide +kernel
theorem dX0_copyFrom_13 : decode cX0_copyFrom 13 = .ok (.putfield 34, 3) := by decide +kernel
theorem dX0_copyFrom_16 : decode cX0_copyFrom 16 = .ok (.aload_n 0, 1) := by decide +kernel
theorem dX0_copyFrom_17 : decode cX0_copyFrom 17 = .ok (.aload_n 1, 1) := by decide +kernel
theorem dX0_copyFrom_18 : decode cX0_copyFrom 18 = .ok (.getfield 37, 3) := by decide +kernel
theorem dX0_copyFrom_21 : decode cX0_copyFrom 21 = .ok (.putfield 37, 3) := by decide +kernel
theorem dX0_copyFrom_24 : decode cX0_copyFrom 24 = .ok (.aload_n 0, 1) := by decide +kernel
theorem dX0_copyFrom_25 : decode cX0_copyFrom 25 = .ok (.aload_n 1, 1) := by decide +kernel
theorem dX0_copyFrom_26 : decode cX0_copyFrom 26 = .ok (.getfield 40, 3) := by decide +kernel
theorem dX0_copyFrom_29 : decode cX0_copyFrom 29 = .ok (.putfield 40, 3) := by decide +kernel
theorem dX0_copyFrom_32 : decode cX0_copyFrom 32 = .ok (.aload_n 0, 1) := by decide +kernel
theorem dX0_copyFrom_33 : decode cX0_copyFrom 33 = .ok (.aload_n 1, 1) := by decide +kernel
theorem dX0_copyFrom_34 : decode cX0_copyFrom 34 = .ok (.getfield 43, 3) := by decide +kernel
theorem dX0_copyFrom_37 : decode cX0_copyFrom 37 = .ok (.putfield 43, 3) := by decide +kernel
theorem dX0_copyFrom_40 : decode cX0_copyFrom 40 = .ok (.iconst 0, 1) := by decide +kernel
theorem dX0_copyFrom_41 : decode cX0_copyFrom 41 = .ok (.istore_n 2, 1) := by decide +kernel
theorem dX0_copyFrom_42 : decode cX0_copyFrom 42 = .ok (.iload_n 2, 1) := by decide +kernel
theorem dX0_copyFrom_43 : decode cX0_copyFrom 43 = .ok (.iconst 5, 1) := by decide +kernel
theorem dX0_copyFrom_44 : decode cX0_copyFrom 44 = .ok (.if_icmp .ge 21, 3) := by decide +kernel
theorem dX0_copyFrom_47 : decode cX0_copyFrom 47 = .ok (.aload_n 0, 1) := by decide +kernel
theorem dX0_copyFrom_48 : decode cX0_copyFrom 48 = .ok (.getfield 9, 3) := by decide +kernel
theorem dX0_copyFrom_51 : decode cX0_copyFrom 51 = .ok (.iload_n 2, 1) := by decide +kernel
theorem dX0_copyFrom_52 : decode cX0_copyFrom 52 = .ok (.aload_n 1, 1) := by decide +kernel
theorem dX0_copyFrom_53 : decode cX0_copyFrom 53 = .ok (.getfield 9, 3) := by decide +kernel
theorem dX0_copyFrom_56 : decode cX0_copyFrom 56 = .ok (.iload_n 2, 1) := by decide +kernel
theorem dX0_copyFrom_57 : decode cX0_copyFrom 57 = .ok (.iaload, 1) := by decide +kernel
theorem dX0_copyFrom_58 : decode cX0_copyFrom 58 = .ok (.iastore, 1) := by decide +kernel
theorem dX0_copyFrom_59 : decode cX0_copyFrom 59 = .ok (.iinc 2 1, 3) := by decide +kernel
theorem dX0_copyFrom_62 : decode cX0_copyFrom 62 = .ok (.goto (-20), 3) := by decide +kernel
theorem dX0_copyFrom_65 : decode cX0_copyFrom 65 = .ok (.iconst 0, 1) := by decide +kernel
theorem dX0_copyFrom_66 : decode cX0_copyFrom 66 = .ok (.istore_n 2, 1) := by decide +kernel
theorem dX0_copyFrom_67 : decode cX0_copyFrom 67 = .ok (.iload_n 2, 1) := by decide +kernel
theorem dX0_copyFrom_68 : decode cX0_copyFrom 68 = .ok (.bipush 7, 2) := by decide +kernel
theorem dX0_copyFrom_70 : decode cX0_copyFrom 70 = .ok (.if_icmp .ge 57, 3) := by decide +kernel
theorem dX0_copyFrom_73 : decode cX0_copyFrom 73 = .ok (.aload_n 0, 1) := by decide +kernel
theorem dX0_copyFrom_74 : decode cX0_copyFrom 74 = .ok (.getfield 15, 3) := by decide +kernel
theorem dX0_copyFrom_77 : decode cX0_copyFrom 77 = .ok (.iload_n 2, 1) := by decide +kernel
theorem dX0_copyFrom_78 : decode cX0_copyFrom 78 = .ok (.aload_n 1, 1) := by decide +kernel
theorem dX0_copyFrom_79 : decode cX0_copyFrom 79 = .ok (.getfield 15, 3) := by decide +kernel
theorem dX0_copyFrom_82 : decode cX0_copyFrom 82 = .ok (.iload_n 2, 1) := by decide +kernel
theorem dX0_copyFrom_83 : decode cX0_copyFrom 83 = .ok (.iaload, 1) := by decide +kernel
theorem dX0_copyFrom_84 : decode cX0_copyFrom 84 = .ok (.iastore, 1) := by decide +kernel
theorem dX0_copyFrom_85 : decode cX0_copyFrom 85 = .ok (.aload_n 0, 1) := by decide +kernel
theorem dX0_copyFrom_86 : decode cX0_copyFrom 86 = .ok (.getfield 18, 3) := by decide +kernel
theorem dX0_copyFrom_89 : decode cX0_copyFrom 89 = .ok (.iload_n 2, 1) := by decide +kernel
theorem dX0_copyFrom_90 : decode cX0_copyFrom 90 = .ok (.aload_n 1, 1) := by decide +kernel
theorem dX0_copyFrom_91 : decode cX0_copyFrom 91 = .ok (.getfield 18, 3) := by decide +kernel
theorem dX0_copyFrom_94 : decode cX0_copyFrom 94 = .ok (.iload_n 2, 1) := by decide +kernel
theorem dX0_copyFrom_95 : decode cX0_copyFrom 95 = .ok (.iaload, 1) := by decide +kernel
theorem dX0_copyFrom_96 : decode cX0_copyFrom 96 = .ok (.iastore, 1) := by decide +kernel
theorem dX0_copyFrom_97 : decode cX0_copyFrom 97 = .ok (.aload_n 0, 1) := by decide +kernel
theorem dX0_copyFrom_98 : decode cX0_copyFrom 98 = .ok (.getfield 21, 3) := by decide +kernel
theorem dX0_copyFrom_101 : decode cX0_copyFrom 101 = .ok (.iload_n 2, 1) := by decide +kernel
theorem dX0_copyFrom_102 : decode cX0_copyFrom 102 = .ok (.aload_n 1, 1) := by decide +kernel
theorem dX0_copyFrom_103 : decode cX0_copyFrom 103 = .ok (.getfield 21, 3) := by decide +kernel
theorem dX0_copyFrom_106 : decode cX0_copyFrom 106 = .ok (.iload_n 2, 1) := by decide +kernel
theorem dX0_copyFrom_107 : decode cX0_copyFrom 107 = .ok (.iaload, 1) := by decide +kernel
theorem dX0_copyFrom_108 : decode cX0_copyFrom 108 = .ok (.iastore, 1) := by decide +kernel
theorem dX0_copyFrom_109 : decode cX0_copyFrom 109 = .ok (.aload_n 0, 1) := by decide +kernel
theorem dX0_copyFrom_110 : decode cX0_copyFrom 110 = .ok (.getfield 24, 3) := by decide +kernel
theorem dX0_copyFrom_113 : decode cX0_copyFrom 113 = .ok (.iload_n 2, 1) := by decide +kernel
theorem dX0_copyFrom_114 : decode cX0_copyFrom 114 = .ok (.aload_n 1, 1) := by decide +kernel
theorem dX0_copyFrom_115 : decode cX0_copyFrom 115 = .ok (.getfield 24, 3) := by decide +kernel
theorem dX0_copyFrom_118 : decode cX0_copyFrom 118 = .ok (.iload_n 2, 1) := by decide +kernel
theorem dX0_copyFrom_119 : decode cX0_copyFrom 119 = .ok (.iaload, 1) := by decide +kernel
theorem dX0_copyFrom_120 : decode cX0_copyFrom 120 = .ok (.iastore, 1) := by decide +kernel
theorem dX0_copyFrom_121 : decode cX0_copyFrom 121 = .ok (.iinc 2 1, 3) := by decide +kernel
theorem dX0_copyFrom_124 : decode cX0_copyFrom 124 = .ok (.goto (-57), 3) := by decide +kernel
theorem dX0_copyFrom_127 : decode cX0_copyFrom 127 = .ok (.return_, 1) := by decide +kernel
theorem dX0_addPlot_0 : decode cX0_addPlot 0 = .ok (.iload_n 1, 1) := by decide +kernel
theorem dX0_addPlot_1 : decode cX0_addPlot 1 = .ok (.iconst 1, 1) := by decide +kernel
theorem dX0_addPlot_2 : decode cX0_addPlot 2 = .ok (.bipush 9, 2) := by decide +kernel
theorem dX0_addPlot_4 : decode cX0_addPlot 4 = .ok (.invokestatic 47, 3) := by decide +kernel
theorem dX0_addPlot_7 : decode cX0_addPlot 7 = .ok (.ifCond .eq 11, 3) := by decide +kernel
theorem dX0_addPlot_10 : decode cX0_addPlot 10 = .ok (.aload_n 0, 1) := by decide +kernel
theorem dX0_addPlot_11 : decode cX0_addPlot 11 = .ok (.getfield 30, 3) := by decide +kernel
theorem dX0_addPlot_14 : decode cX0_addPlot 14 = .ok (.iconst 5, 1) := by decide +kernel
theorem dX0_addPlot_15 : decode cX0_addPlot 15 = .ok (.if_icmp .lt 5, 3) := by decide +kernel
theorem dX0_addPlot_18 : decode cX0_addPlot 18 = .ok (.iconst 0, 1) := by decide +kernel
theorem dX0_addPlot_19 : decode cX0_addPlot 19 = .ok (.ireturn, 1) := by decide +kernel
theorem dX0_addPlot_20 : decode cX0_addPlot 20 = .ok (.aload_n 0, 1) := by decide +kernel
theorem dX0_addPlot_21 : decode cX0_addPlot 21 = .ok (.getfield 9, 3) := by decide +kernel
theorem dX0_addPlot_24 : decode cX0_addPlot 24 = .ok (.aload_n 0, 1) := by decide +kernel
theorem dX0_addPlot_25 : decode cX0_addPlot 25 = .ok (.getfield 30, 3) := by decide +kernel
theorem dX0_addPlot_28 : decode cX0_addPlot 28 = .ok (.iload_n 1, 1) := by decide +kernel
theorem dX0_addPlot_29 : decode cX0_addPlot 29 = .ok (.iastore, 1) := by decide +kernel
theorem dX0_addPlot_30 : decode cX0_addPlot 30 = .ok (.aload_n 0, 1) := by decide +kernel
theorem dX0_addPlot_31 : decode cX0_addPlot 31 = .ok (.dup, 1) := by decide +kernel
theorem dX0_addPlot_32 : decode cX0_addPlot 32 = .ok (.getfield 30, 3) := by decide +kernel
theorem dX0_addPlot_35 : decode cX0_addPlot 35 = .ok (.iconst 1, 1) := by decide +kernel
theorem dX0_addPlot_36 : decode cX0_addPlot 36 = .ok (.iadd, 1) := by decide +kernel
theorem dX0_addPlot_37 : decode cX0_addPlot 37 = .ok (.putfield 30, 3) := by decide +kernel
theorem dX0_addPlot_40 : decode cX0_addPlot 40 = .ok (.iconst 1, 1) := by decide +kernel
theorem dX0_addPlot_41 : decode cX0_addPlot 41 = .ok (.ireturn, 1) := by decide +kernel
theorem dX0_addHour_0 : decode cX0_addHour 0 = .ok (.iload_n 1, 1) := by decide +kernel
theorem dX0_addHour_1 : decode cX0_addHour 1 = .ok (.iconst 0, 1) := by decide +kernel
theorem dX0_addHour_2 : decode cX0_addHour 2 = .ok (.iconst 3, 1) := by decide +kernel
theorem dX0_addHour_3 : decode cX0_addHour 3 = .ok (.invokestatic 47, 3) := by decide +kernel
theorem dX0_addHour_6 : decode cX0_addHour 6 = .ok (.ifCond .eq 22, 3) := by decide +kernel
theorem dX0_addHour_9 : decode cX0_addHour 9 = .ok (.iload_n 2, 1) := by decide +kernel
theorem dX0_addHour_10 : decode cX0_addHour 10 = .ok (.iconst 1, 1) := by decide +kernel
theorem dX0_addHour_11 : decode cX0_addHour 11 = .ok (.bipush 20, 2) := by decide +kernel
theorem dX0_addHour_13 : decode cX0_addHour 13 = .ok (.invokestatic 47, 3) := by decide +kernel
theorem dX0_addHour_16 : decode cX0_addHour 16 = .ok (.ifCond .eq 12, 3) := by decide +kernel
theorem dX0_addHour_19 : decode cX0_addHour 19 = .ok (.aload_n 0, 1) := by decide +kernel
theorem dX0_addHour_20 : decode cX0_addHour 20 = .ok (.getfield 34, 3) := by decide +kernel
theorem dX0_addHour_23 : decode cX0_addHour 23 = .ok (.bipush 7, 2) := by decide +kernel
theorem dX0_addHour_25 : decode cX0_addHour 25 = .ok (.if_icmp .lt 5, 3) := by decide +kernel
theorem dX0_addHour_28 : decode cX0_addHour 28 = .ok (.iconst 0, 1) := by decide +kernel
theorem dX0_addHour_29 : decode cX0_addHour 29 = .ok (.ireturn, 1) := by decide +kernel
theorem dX0_addHour_30 : decode cX0_addHour 30 = .ok (.aload_n 0, 1) := by decide +kernel
theorem dX0_addHour_31 : decode cX0_addHour 31 = .ok (.getfield 15, 3) := by decide +kernel
theorem dX0_addHour_34 : decode cX0_addHour 34 = .ok (.aload_n 0, 1) := by decide +kernel
theorem dX0_addHour_35 : decode cX0_addHour 35 = .ok (.getfield 34, 3) := by decide +kernel
theorem dX0_addHour_38 : decode cX0_addHour 38 = .ok (.iload_n 1, 1) := by decide +kernel
theorem dX0_addHour_39 : decode cX0_addHour 39 = .ok (.iastore, 1) := by decide +kernel
theorem dX0_addHour_40 : decode cX0_addHour 40 = .ok (.aload_n 0, 1) := by decide +kernel
theorem dX0_addHour_41 : decode cX0_addHour 41 = .ok (.getfield 18, 3) := by decide +kernel
theorem dX0_addHour_44 : decode cX0_addHour 44 = .ok (.aload_n 0, 1) := by decide +kernel
theorem dX0_addHour_45 : decode cX0_addHour 45 = .ok (.getfield 34, 3) := by decide +kernel
theorem dX0_addHour_48 : decode cX0_addHour 48 = .ok (.iload_n 2, 1) := by decide +kernel
theorem dX0_addHour_49 : decode cX0_addHour 49 = .ok (.iastore, 1) := by decide +kernel
theorem dX0_addHour_50 : decode cX0_addHour 50 = .ok (.aload_n 0, 1) := by decide +kernel
theorem dX0_addHour_51 : decode cX0_addHour 51 = .ok (.dup, 1) := by decide +kernel
theorem dX0_addHour_52 : decode cX0_addHour 52 = .ok (.getfield 34, 3) := by decide +kernel
theorem dX0_addHour_55 : decode cX0_addHour 55 = .ok (.iconst 1, 1) := by decide +kernel
theorem dX0_addHour_56 : decode cX0_addHour 56 = .ok (.iadd, 1) := by decide +kernel
theorem dX0_addHour_57 : decode cX0_addHour 57 = .ok (.putfield 34, 3) := by decide +kernel
theorem dX0_addHour_60 : decode cX0_addHour 60 = .ok (.iconst 1, 1) := by decide +kernel
theorem dX0_addHour_61 : decode cX0_addHour 61 = .ok (.ireturn, 1) := by decide +kernel
theorem dX0_addLyingHour_0 : decode cX0_addLyingHour 0 = .ok (.aload_n 0, 1) := by decide +kernel
theorem dX0_addLyingHour_1 : decode cX0_addLyingHour 1 = .ok (.iload_n 1, 1) := by decide +kernel
theorem dX0_addLyingHour_2 : decode cX0_addLyingHour 2 = .ok (.iload_n 2, 1) := by decide +kernel
theorem dX0_addLyingHour_3 : decode cX0_addLyingHour 3 = .ok (.invokevirtual 51, 3) := by decide +kernel
theorem dX0_addLyingHour_6 : decode cX0_addLyingHour 6 = .ok (.ifCond .eq 17, 3) := by decide +kernel
theorem dX0_addLyingHour_9 : decode cX0_addLyingHour 9 = .ok (.aload_n 0, 1) := by decide +kernel
theorem dX0_addLyingHour_10 : decode cX0_addLyingHour 10 = .ok (.aload_n 0, 1) := by decide +kernel
theorem dX0_addLyingHour_11 : decode cX0_addLyingHour 11 = .ok (.getfield 34, 3) := by decide +kernel
theorem dX0_addLyingHour_14 : decode cX0_addLyingHour 14 = .ok (.iconst 1, 1) := by decide +kernel
theorem dX0_addLyingHour_15 : decode cX0_addLyingHour 15 = .ok (.isub, 1) := by decide +kernel
theorem dX0_addLyingHour_16 : decode cX0_addLyingHour 16 = .ok (.iload_n 3, 1) := by decide +kernel
theorem dX0_addLyingHour_17 : decode cX0_addLyingHour 17 = .ok (.invokevirtual 55, 3) := by decide +kernel
theorem dX0_addLyingHour_20 : decode cX0_addLyingHour 20 = .ok (.ifCond .ne 5, 3) := by decide +kernel
theorem dX0_addLyingHour_23 : decode cX0_addLyingHour 23 = .ok (.iconst 0, 1) := by decide +kernel
theorem dX0_addLyingHour_24 : decode cX0_addLyingHour 24 = .ok (.ireturn, 1) := by decide +kernel
theorem dX0_addLyingHour_25 : decode cX0_addLyingHour 25 = .ok (.aload_n 0, 1) := by decide +kernel
theorem dX0_addLyingHour_26 : decode cX0_addLyingHour 26 = .ok (.aload_n 0, 1) := by decide +kernel
theorem dX0_addLyingHour_27 : decode cX0_addLyingHour 27 = .ok (.getfield 34, 3) := by decide +kernel
theorem dX0_addLyingHour_30 : decode cX0_addLyingHour 30 = .ok (.iconst 1, 1) := by decide +kernel
theorem dX0_addLyingHour_31 : decode cX0_addLyingHour 31 = .ok (.isub, 1) := by decide +kernel
theorem dX0_addLyingHour_32 : decode cX0_addLyingHour 32 = .ok (.iload_n 3, 1) := by decide +kernel
theorem dX0_addLyingHour_33 : decode cX0_addLyingHour 33 = .ok (.invokevirtual 58, 3) := by decide +kernel
theorem dX0_addLyingHour_36 : decode cX0_addLyingHour 36 = .ok (.iconst 1, 1) := by decide +kernel
theorem dX0_addLyingHour_37 : decode cX0_addLyingHour 37 = .ok (.ireturn, 1) := by decide +kernel
theorem dX0_addFrost_0 : decode cX0_addFrost 0 = .ok (.iload_n 1, 1) := by decide +kernel
theorem dX0_addFrost_1 : decode cX0_addFrost 1 = .ok (.iconst 0, 1) := by decide +kernel
theorem dX0_addFrost_2 : decode cX0_addFrost 2 = .ok (.bipush 39, 2) := by decide +kernel
theorem dX0_addFrost_4 : decode cX0_addFrost 4 = .ok (.invokestatic 47, 3) := by decide +kernel
theorem dX0_addFrost_7 : decode cX0_addFrost 7 = .ok (.ifCond .ne 5, 3) := by decide +kernel
theorem dX0_addFrost_10 : decode cX0_addFrost 10 = .ok (.iconst 0, 1) := by decide +kernel
theorem dX0_addFrost_11 : decode cX0_addFrost 11 = .ok (.ireturn, 1) := by decide +kernel
theorem dX0_addFrost_12 : decode cX0_addFrost 12 = .ok (.aload_n 0, 1) := by decide +kernel
theorem dX0_addFrost_13 : decode cX0_addFrost 13 = .ok (.dup, 1) := by decide +kernel
theorem dX0_addFrost_14 : decode cX0_addFrost 14 = .ok (.getfield 43, 3) := by decide +kernel
theorem dX0_addFrost_17 : decode cX0_addFrost 17 = .ok (.lconst 1, 1) := by decide +kernel
theorem dX0_addFrost_18 : decode cX0_addFrost 18 = .ok (.iload_n 1, 1) := by decide +kernel
theorem dX0_addFrost_19 : decode cX0_addFrost 19 = .ok (.lshl, 1) := by decide +kernel
theorem dX0_addFrost_20 : decode cX0_addFrost 20 = .ok (.lor, 1) := by decide +kernel
theorem dX0_addFrost_21 : decode cX0_addFrost 21 = .ok (.putfield 43, 3) := by decide +kernel
theorem dX0_addFrost_24 : decode cX0_addFrost 24 = .ok (.iconst 1, 1) := by decide +kernel
theorem dX0_addFrost_25 : decode cX0_addFrost 25 = .ok (.ireturn, 1) := by decide +kernel
theorem dX0_hasPlot_0 : decode cX0_hasPlot 0 = .ok (.iload_n 1, 1) := by decide +kernel
theorem dX0_hasPlot_1 : decode cX0_hasPlot 1 = .ok (.ifCond .lt 20, 3) := by decide +kernel
theorem dX0_hasPlot_4 : decode cX0_hasPlot 4 = .ok (.iload_n 1, 1) := by decide +kernel
theorem dX0_hasPlot_5 : decode cX0_hasPlot 5 = .ok (.aload_n 0, 1) := by decide +kernel
theorem dX0_hasPlot_6 : decode cX0_hasPlot 6 = .ok (.getfield 30, 3) := by decide +kernel
theorem dX0_hasPlot_9 : decode cX0_hasPlot 9 = .ok (.if_icmp .ge 12, 3) := by decide +kernel
theorem dX0_hasPlot_12 : decode cX0_hasPlot 12 = .ok (.iload_n 1, 1) := by decide +kernel
theorem dX0_hasPlot_13 : decode cX0_hasPlot 13 = .ok (.iconst 5, 1) := by decide +kernel
theorem dX0_hasPlot_14 : decode cX0_hasPlot 14 = .ok (.if_icmp .ge 7, 3) := by decide +kernel
theorem dX0_hasPlot_17 : decode cX0_hasPlot 17 = .ok (.iconst 1, 1) := by decide +kernel
theorem dX0_hasPlot_18 : decode cX0_hasPlot 18 = .ok (.goto 4, 3) := by decide +kernel
theorem dX0_hasPlot_21 : decode cX0_hasPlot 21 = .ok (.iconst 0, 1) := by decide +kernel
theorem dX0_hasPlot_22 : decode cX0_hasPlot 22 = .ok (.ireturn, 1) := by decide +kernel
theorem dX0_hasHour_0 : decode cX0_hasHour 0 = .ok (.iload_n 1, 1) := by decide +kernel
theorem dX0_hasHour_1 : decode cX0_hasHour 1 = .ok (.ifCond .lt 21, 3) := by decide +kernel
theorem dX0_hasHour_4 : decode cX0_hasHour 4 = .ok (.iload_n 1, 1) := by decide +kernel
theorem dX0_hasHour_5 : decode cX0_hasHour 5 = .ok (.aload_n 0, 1) := by decide +kernel
theorem dX0_hasHour_6 : decode cX0_hasHour 6 = .ok (.getfield 34, 3) := by decide +kernel
theorem dX0_hasHour_9 : decode cX0_hasHour 9 = .ok (.if_icmp .ge 13, 3) := by decide +kernel
theorem dX0_hasHour_12 : decode cX0_hasHour 12 = .ok (.iload_n 1, 1) := by decide +kernel
theorem dX0_hasHour_13 : decode cX0_hasHour 13 = .ok (.bipush 7, 2) := by decide +kernel
theorem dX0_hasHour_15 : decode cX0_hasHour 15 = .ok (.if_icmp .ge 7, 3) := by decide +kernel
theorem dX0_hasHour_18 : decode cX0_hasHour 18 = .ok (.iconst 1, 1) := by decide +kernel
theorem dX0_hasHour_19 : decode cX0_hasHour 19 = .ok (.goto 4, 3) := by decide +kernel
theorem dX0_hasHour_22 : decode cX0_hasHour 22 = .ok (.iconst 0, 1) := by decide +kernel
theorem dX0_hasHour_23 : decode cX0_hasHour 23 = .ok (.ireturn, 1) := by decide +kernel
theorem dX0_roomOf_0 : decode cX0_roomOf 0 = .ok (.aload_n 0, 1) := by decide +kernel
theorem dX0_roomOf_1 : decode cX0_roomOf 1 = .ok (.iload_n 1, 1) := by decide +kernel
theorem dX0_roomOf_2 : decode cX0_roomOf 2 = .ok (.invokevirtual 62, 3) := by decide +kernel
theorem dX0_roomOf_5 : decode cX0_roomOf 5 = .ok (.ifCond .eq 12, 3) := by decide +kernel
theorem dX0_roomOf_8 : decode cX0_roomOf 8 = .ok (.aload_n 0, 1) := by decide +kernel
theorem dX0_roomOf_9 : decode cX0_roomOf 9 = .ok (.getfield 9, 3) := by decide +kernel
theorem dX0_roomOf_12 : decode cX0_roomOf 12 = .ok (.iload_n 1, 1) := by decide +kernel
theorem dX0_roomOf_13 : decode cX0_roomOf 13 = .ok (.iaload, 1) := by decide +kernel
theorem dX0_roomOf_14 : decode cX0_roomOf 14 = .ok (.goto 4, 3) := by decide +kernel
theorem dX0_roomOf_17 : decode cX0_roomOf 17 = .ok (.iconst 0, 1) := by decide +kernel
theorem dX0_roomOf_18 : decode cX0_roomOf 18 = .ok (.ireturn, 1) := by decide +kernel
theorem dX0_kindOf_0 : decode cX0_kindOf 0 = .ok (.aload_n 0, 1) := by decide +kernel
theorem dX0_kindOf_1 : decode cX0_kindOf 1 = .ok (.iload_n 1, 1) := by decide +kernel
theorem dX0_kindOf_2 : decode cX0_kindOf 2 = .ok (.invokevirtual 66, 3) := by decide +kernel
theorem dX0_kindOf_5 : decode cX0_kindOf 5 = .ok (.ifCond .eq 12, 3) := by decide +kernel
theorem dX0_kindOf_8 : decode cX0_kindOf 8 = .ok (.aload_n 0, 1) := by decide +kernel
theorem dX0_kindOf_9 : decode cX0_kindOf 9 = .ok (.getfield 15, 3) := by decide +kernel
theorem dX0_kindOf_12 : decode cX0_kindOf 12 = .ok (.iload_n 1, 1) := by decide +kernel
theorem dX0_kindOf_13 : decode cX0_kindOf 13 = .ok (.iaload, 1) := by decide +kernel
theorem dX0_kindOf_14 : decode cX0_kindOf 14 = .ok (.goto 4, 3) := by decide +kernel
theorem dX0_kindOf_17 : decode cX0_kindOf 17 = .ok (.iconst (-1), 1) := by decide +kernel
theorem dX0_kindOf_18 : decode cX0_kindOf 18 = .ok (.ireturn, 1) := by decide +kernel
theorem dX0_worthOf_0 : decode cX0_worthOf 0 = .ok (.aload_n 0, 1) := by decide +kernel
theorem dX0_worthOf_1 : decode cX0_worthOf 1 = .ok (.iload_n 1, 1) := by decide +kernel
theorem dX0_worthOf_2 : decode cX0_worthOf 2 = .ok (.invokevirtual 66, 3) := by decide +kernel
theorem dX0_worthOf_5 : decode cX0_worthOf 5 = .ok (.ifCond .eq 12, 3) := by decide +kernel
theorem dX0_worthOf_8 : decode cX0_worthOf 8 = .ok (.aload_n 0, 1) := by decide +kernel
theorem dX0_worthOf_9 : decode cX0_worthOf 9 = .ok (.getfield 18, 3) := by decide +kernel
theorem dX0_worthOf_12 : decode cX0_worthOf 12 = .ok (.iload_n 1, 1) := by decide +kernel
theorem dX0_worthOf_13 : decode cX0_worthOf 13 = .ok (.iaload, 1) := by decide +kernel
theorem dX0_worthOf_14 : decode cX0_worthOf 14 = .ok (.goto 4, 3) := by decide +kernel
theorem dX0_worthOf_17 : decode cX0_worthOf 17 = .ok (.iconst 0, 1) := by decide +kernel
theorem dX0_worthOf_18 : decode cX0_worthOf 18 = .ok (.ireturn, 1) := by decide +kernel
theorem dX0_placeOf_0 : decode cX0_placeOf 0 = .ok (.aload_n 0, 1) := by decide +kernel
theorem dX0_placeOf_1 : decode cX0_placeOf 1 = .ok (.iload_n 1, 1) := by decide +kernel
theorem dX0_placeOf_2 : decode cX0_placeOf 2 = .ok (.invokevirtual 66, 3) := by decide +kernel
theorem dX0_placeOf_5 : decode cX0_placeOf 5 = .ok (.ifCond .eq 12, 3) := by decide +kernel
theorem dX0_placeOf_8 : decode cX0_placeOf 8 = .ok (.aload_n 0, 1) := by decide +kernel
theorem dX0_placeOf_9 : decode cX0_placeOf 9 = .ok (.getfield 21, 3) := by decide +kernel
theorem dX0_placeOf_12 : decode cX0_placeOf 12 = .ok (.iload_n 1, 1) := by decide +kernel
theorem dX0_placeOf_13 : decode cX0_placeOf 13 = .ok (.iaload, 1) := by decide +kernel
theorem dX0_placeOf_14 : decode cX0_placeOf 14 = .ok (.goto 5, 3) := by decide +kernel
theorem dX0_placeOf_17 : decode cX0_placeOf 17 = .ok (.bipush (-4), 2) := by decide +kernel
theorem dX0_placeOf_19 : decode cX0_placeOf 19 = .ok (.ireturn, 1) := by decide +kernel
theorem dX0_depthOf_0 : decode cX0_depthOf 0 = .ok (.aload_n 0, 1) := by decide +kernel
theorem dX0_depthOf_1 : decode cX0_depthOf 1 = .ok (.iload_n 1, 1) := by decide +kernel
theorem dX0_depthOf_2 : decode cX0_depthOf 2 = .ok (.invokevirtual 66, 3) := by decide +kernel
theorem dX0_depthOf_5 : decode cX0_depthOf 5 = .ok (.ifCond .eq 12, 3) := by decide +kernel
theorem dX0_depthOf_8 : decode cX0_depthOf 8 = .ok (.aload_n 0, 1) := by decide +kernel
theorem dX0_depthOf_9 : decode cX0_depthOf 9 = .ok (.getfield 24, 3) := by decide +kernel
theorem dX0_depthOf_12 : decode cX0_depthOf 12 = .ok (.iload_n 1, 1) := by decide +kernel
theorem dX0_depthOf_13 : decode cX0_depthOf 13 = .ok (.iaload, 1) := by decide +kernel
theorem dX0_depthOf_14 : decode cX0_depthOf 14 = .ok (.goto 4, 3) := by decide +kernel
theorem dX0_depthOf_17 : decode cX0_depthOf 17 = .ok (.iconst 0, 1) := by decide +kernel
theorem dX0_depthOf_18 : decode cX0_depthOf 18 = .ok (.ireturn, 1) := by decide +kernel
theorem dX0_lies_0 : decode cX0_lies 0 = .ok (.aload_n 0, 1) := by decide +kernel
theorem dX0_lies_1 : decode cX0_lies 1 = .ok (.iload_n 1, 1) := by decide +kernel
theorem dX0_lies_2 : decode cX0_lies 2 = .ok (.invokevirtual 66, 3) := by decide +kernel
theorem dX0_lies_5 : decode cX0_lies 5 = .ok (.ifCond .eq 18, 3) := by decide +kernel
theorem dX0_lies_8 : decode cX0_lies 8 = .ok (.aload_n 0, 1) := by decide +kernel
theorem dX0_lies_9 : decode cX0_lies 9 = .ok (.getfield 21, 3) := by decide +kernel
theorem dX0_lies_12 : decode cX0_lies 12 = .ok (.iload_n 1, 1) := by decide +kernel
theorem dX0_lies_13 : decode cX0_lies 13 = .ok (.iaload, 1) := by decide +kernel
theorem dX0_lies_14 : decode cX0_lies 14 = .ok (.bipush (-4), 2) := by decide +kernel
theorem dX0_lies_16 : decode cX0_lies 16 = .ok (.if_icmp .eq 7, 3) := by decide +kernel
theorem dX0_lies_19 : decode cX0_lies 19 = .ok (.iconst 1, 1) := by decide +kernel
theorem dX0_lies_20 : decode cX0_lies 20 = .ok (.goto 4, 3) := by decide +kernel
theorem dX0_lies_23 : decode cX0_lies 23 = .ok (.iconst 0, 1) := by decide +kernel
theorem dX0_lies_24 : decode cX0_lies 24 = .ok (.ireturn, 1) := by decide +kernel
theorem dX0_isFrost_0 : decode cX0_isFrost 0 = .ok (.aload_n 0, 1) := by decide +kernel
theorem dX0_isFrost_1 : decode cX0_isFrost 1 = .ok (.getfield 37, 3) := by decide +kernel
theorem dX0_isFrost_4 : decode cX0_isFrost 4 = .ok (.bipush 40, 2) := by decide +kernel
theorem dX0_isFrost_6 : decode cX0_isFrost 6 = .ok (.if_icmp .ge 23, 3) := by decide +kernel
theorem dX0_isFrost_9 : decode cX0_isFrost 9 = .ok (.aload_n 0, 1) := by decide +kernel
theorem dX0_isFrost_10 : decode cX0_isFrost 10 = .ok (.getfield 43, 3) := by decide +kernel
theorem dX0_isFrost_13 : decode cX0_isFrost 13 = .ok (.aload_n 0, 1) := by decide +kernel
theorem dX0_isFrost_14 : decode cX0_isFrost 14 = .ok (.getfield 37, 3) := by decide +kernel
theorem dX0_isFrost_17 : decode cX0_isFrost 17 = .ok (.lshr, 1) := by decide +kernel
theorem dX0_isFrost_18 : decode cX0_isFrost 18 = .ok (.lconst 1, 1) := by decide +kernel
theorem dX0_isFrost_19 : decode cX0_isFrost 19 = .ok (.land, 1) := by decide +kernel
theorem dX0_isFrost_20 : decode cX0_isFrost 20 = .ok (.lconst 1, 1) := by decide +kernel
theorem dX0_isFrost_21 : decode cX0_isFrost 21 = .ok (.lcmp, 1) := by decide +kernel
theorem dX0_isFrost_22 : decode cX0_isFrost 22 = .ok (.ifCond .ne 7, 3) := by decide +kernel
theorem dX0_isFrost_25 : decode cX0_isFrost 25 = .ok (.iconst 1, 1) := by decide +kernel
theorem dX0_isFrost_26 : decode cX0_isFrost 26 = .ok (.goto 4, 3) := by decide +kernel
theorem dX0_isFrost_29 : decode cX0_isFrost 29 = .ok (.iconst 0, 1) := by decide +kernel
theorem dX0_isFrost_30 : decode cX0_isFrost 30 = .ok (.ireturn, 1) := by decide +kernel
theorem dX0_heightOf_0 : decode cX0_heightOf 0 = .ok (.iconst 0, 1) := by decide +kernel
theorem dX0_heightOf_1 : decode cX0_heightOf 1 = .ok (.istore_n 2, 1) := by decide +kernel
theorem dX0_heightOf_2 : decode cX0_heightOf 2 = .ok (.iconst 0, 1) := by decide +kernel
theorem dX0_heightOf_3 : decode cX0_heightOf 3 = .ok (.istore_n 3, 1) := by decide +kernel
theorem dX0_heightOf_4 : decode cX0_heightOf 4 = .ok (.iload_n 3, 1) := by decide +kernel
theorem dX0_heightOf_5 : decode cX0_heightOf 5 = .ok (.bipush 7, 2) := by decide +kernel
theorem dX0_heightOf_7 : decode cX0_heightOf 7 = .ok (.if_icmp .ge 22, 3) := by decide +kernel
theorem dX0_heightOf_10 : decode cX0_heightOf 10 = .ok (.aload_n 0, 1) := by decide +kernel
theorem dX0_heightOf_11 : decode cX0_heightOf 11 = .ok (.getfield 21, 3) := by decide +kernel
theorem dX0_heightOf_14 : decode cX0_heightOf 14 = .ok (.iload_n 3, 1) := by decide +kernel
theorem dX0_heightOf_15 : decode cX0_heightOf 15 = .ok (.iaload, 1) := by decide +kernel
theorem dX0_heightOf_16 : decode cX0_heightOf 16 = .ok (.iload_n 1, 1) := by decide +kernel
theorem dX0_heightOf_17 : decode cX0_heightOf 17 = .ok (.if_icmp .ne 6, 3) := by decide +kernel
theorem dX0_heightOf_20 : decode cX0_heightOf 20 = .ok (.iinc 2 1, 3) := by decide +kernel
theorem dX0_heightOf_23 : decode cX0_heightOf 23 = .ok (.iinc 3 1, 3) := by decide +kernel
theorem dX0_heightOf_26 : decode cX0_heightOf 26 = .ok (.goto (-22), 3) := by decide +kernel
theorem dX0_heightOf_29 : decode cX0_heightOf 29 = .ok (.iload_n 2, 1) := by decide +kernel
theorem dX0_heightOf_30 : decode cX0_heightOf 30 = .ok (.ireturn, 1) := by decide +kernel
theorem dX0_hourAt_0 : decode cX0_hourAt 0 = .ok (.iconst 0, 1) := by decide +kernel
theorem dX0_hourAt_1 : decode cX0_hourAt 1 = .ok (.istore_n 3, 1) := by decide +kernel
theorem dX0_hourAt_2 : decode cX0_hourAt 2 = .ok (.iload_n 3, 1) := by decide +kernel
theorem dX0_hourAt_3 : decode cX0_hourAt 3 = .ok (.bipush 7, 2) := by decide +kernel
theorem dX0_hourAt_5 : decode cX0_hourAt 5 = .ok (.if_icmp .ge 31, 3) := by decide +kernel
theorem dX0_hourAt_8 : decode cX0_hourAt 8 = .ok (.aload_n 0, 1) := by decide +kernel
theorem dX0_hourAt_9 : decode cX0_hourAt 9 = .ok (.getfield 21, 3) := by decide +kernel
theorem dX0_hourAt_12 : decode cX0_hourAt 12 = .ok (.iload_n 3, 1) := by decide +kernel
theorem dX0_hourAt_13 : decode cX0_hourAt 13 = .ok (.iaload, 1) := by decide +kernel
theorem dX0_hourAt_14 : decode cX0_hourAt 14 = .ok (.iload_n 1, 1) := by decide +kernel
theorem dX0_hourAt_15 : decode cX0_hourAt 15 = .ok (.if_icmp .ne 15, 3) := by decide +kernel
theorem dX0_hourAt_18 : decode cX0_hourAt 18 = .ok (.aload_n 0, 1) := by decide +kernel
theorem dX0_hourAt_19 : decode cX0_hourAt 19 = .ok (.getfield 24, 3) := by decide +kernel
theorem dX0_hourAt_22 : decode cX0_hourAt 22 = .ok (.iload_n 3, 1) := by decide +kernel
theorem dX0_hourAt_23 : decode cX0_hourAt 23 = .ok (.iaload, 1) := by decide +kernel
theorem dX0_hourAt_24 : decode cX0_hourAt 24 = .ok (.iload_n 2, 1) := by decide +kernel
theorem dX0_hourAt_25 : decode cX0_hourAt 25 = .ok (.if_icmp .ne 5, 3) := by decide +kernel
theorem dX0_hourAt_28 : decode cX0_hourAt 28 = .ok (.iload_n 3, 1) := by decide +kernel
theorem dX0_hourAt_29 : decode cX0_hourAt 29 = .ok (.ireturn, 1) := by decide +kernel
theorem dX0_hourAt_30 : decode cX0_hourAt 30 = .ok (.iinc 3 1, 3) := by decide +kernel
theorem dX0_hourAt_33 : decode cX0_hourAt 33 = .ok (.goto (-31), 3) := by decide +kernel
theorem dX0_hourAt_36 : decode cX0_hourAt 36 = .ok (.bipush (-4), 2) := by decide +kernel
theorem dX0_hourAt_38 : decode cX0_hourAt 38 = .ok (.ireturn, 1) := by decide +kernel
theorem dX0_topOf_0 : decode cX0_topOf 0 = .ok (.aload_n 0, 1) := by decide +kernel
theorem dX0_topOf_1 : decode cX0_topOf 1 = .ok (.iload_n 1, 1) := by decide +kernel
theorem dX0_topOf_2 : decode cX0_topOf 2 = .ok (.invokevirtual 62, 3) := by decide +kernel
theorem dX0_topOf_5 : decode cX0_topOf 5 = .ok (.ifCond .eq 18, 3) := by decide +kernel
theorem dX0_topOf_8 : decode cX0_topOf 8 = .ok (.aload_n 0, 1) := by decide +kernel
theorem dX0_topOf_9 : decode cX0_topOf 9 = .ok (.iload_n 1, 1) := by decide +kernel
theorem dX0_topOf_10 : decode cX0_topOf 10 = .ok (.aload_n 0, 1) := by decide +kernel
theorem dX0_topOf_11 : decode cX0_topOf 11 = .ok (.iload_n 1, 1) := by decide +kernel
theorem dX0_topOf_12 : decode cX0_topOf 12 = .ok (.invokevirtual 69, 3) := by decide +kernel
theorem dX0_topOf_15 : decode cX0_topOf 15 = .ok (.iconst 1, 1) := by decide +kernel
theorem dX0_topOf_16 : decode cX0_topOf 16 = .ok (.isub, 1) := by decide +kernel
theorem dX0_topOf_17 : decode cX0_topOf 17 = .ok (.invokevirtual 73, 3) := by decide +kernel
theorem dX0_topOf_20 : decode cX0_topOf 20 = .ok (.goto 5, 3) := by decide +kernel
theorem dX0_topOf_23 : decode cX0_topOf 23 = .ok (.bipush (-4), 2) := by decide +kernel
theorem dX0_topOf_25 : decode cX0_topOf 25 = .ok (.ireturn, 1) := by decide +kernel
theorem dX0_needAbove_0 : decode cX0_needAbove 0 = .ok (.iload_n 1, 1) := by decide +kernel
theorem dX0_needAbove_1 : decode cX0_needAbove 1 = .ok (.iconst 2, 1) := by decide +kernel
theorem dX0_needAbove_2 : decode cX0_needAbove 2 = .ok (.if_icmp .ne 10, 3) := by decide +kernel
theorem dX0_needAbove_5 : decode cX0_needAbove 5 = .ok (.iload_n 0, 1) := by decide +kernel
theorem dX0_needAbove_6 : decode cX0_needAbove 6 = .ok (.iconst 2, 1) := by decide +kernel
theorem dX0_needAbove_7 : decode cX0_needAbove 7 = .ok (.if_icmp .ne 5, 3) := by decide +kernel
theorem dX0_needAbove_10 : decode cX0_needAbove 10 = .ok (.iconst 0, 1) := by decide +kernel
theorem dX0_needAbove_11 : decode cX0_needAbove 11 = .ok (.ireturn, 1) := by decide +kernel
theorem dX0_needAbove_12 : decode cX0_needAbove 12 = .ok (.iload_n 1, 1) := by decide +kernel
theorem dX0_needAbove_13 : decode cX0_needAbove 13 = .ok (.iconst 1, 1) := by decide +kernel
theorem dX0_needAbove_14 : decode cX0_needAbove 14 = .ok (.if_icmp .ne 7, 3) := by decide +kernel
theorem dX0_needAbove_17 : decode cX0_needAbove 17 = .ok (.iconst 2, 1) := by decide +kernel
theorem dX0_needAbove_18 : decode cX0_needAbove 18 = .ok (.goto 4, 3) := by decide +kernel
theorem dX0_needAbove_21 : decode cX0_needAbove 21 = .ok (.iconst 1, 1) := by decide +kernel
theorem dX0_needAbove_22 : decode cX0_needAbove 22 = .ok (.ireturn, 1) := by decide +kernel
theorem dX0_needOf_0 : decode cX0_needOf 0 = .ok (.aload_n 0, 1) := by decide +kernel
theorem dX0_needOf_1 : decode cX0_needOf 1 = .ok (.iload_n 1, 1) := by decide +kernel
theorem dX0_needOf_2 : decode cX0_needOf 2 = .ok (.invokevirtual 66, 3) := by decide +kernel
theorem dX0_needOf_5 : decode cX0_needOf 5 = .ok (.ifCond .ne 5, 3) := by decide +kernel
theorem dX0_needOf_8 : decode cX0_needOf 8 = .ok (.iconst 0, 1) := by decide +kernel
theorem dX0_needOf_9 : decode cX0_needOf 9 = .ok (.ireturn, 1) := by decide +kernel
theorem dX0_needOf_10 : decode cX0_needOf 10 = .ok (.aload_n 0, 1) := by decide +kernel
theorem dX0_needOf_11 : decode cX0_needOf 11 = .ok (.aload_n 0, 1) := by decide +kernel
theorem dX0_needOf_12 : decode cX0_needOf 12 = .ok (.getfield 21, 3) := by decide +kernel
theorem dX0_needOf_15 : decode cX0_needOf 15 = .ok (.iload_n 1, 1) := by decide +kernel
theorem dX0_needOf_16 : decode cX0_needOf 16 = .ok (.iaload, 1) := by decide +kernel
theorem dX0_needOf_17 : decode cX0_needOf 17 = .ok (.aload_n 0, 1) := by decide +kernel
theorem dX0_needOf_18 : decode cX0_needOf 18 = .ok (.getfield 24, 3) := by decide +kernel
theorem dX0_needOf_21 : decode cX0_needOf 21 = .ok (.iload_n 1, 1) := by decide +kernel
theorem dX0_needOf_22 : decode cX0_needOf 22 = .ok (.iaload, 1) := by decide +kernel
theorem dX0_needOf_23 : decode cX0_needOf 23 = .ok (.iconst 1, 1) := by decide +kernel
theorem dX0_needOf_24 : decode cX0_needOf 24 = .ok (.isub, 1) := by decide +kernel
theorem dX0_needOf_25 : decode cX0_needOf 25 = .ok (.invokevirtual 73, 3) := by decide +kernel
theorem dX0_needOf_28 : decode cX0_needOf 28 = .ok (.istore_n 2, 1) := by decide +kernel
theorem dX0_needOf_29 : decode cX0_needOf 29 = .ok (.aload_n 0, 1) := by decide +kernel
theorem dX0_needOf_30 : decode cX0_needOf 30 = .ok (.iload_n 2, 1) := by decide +kernel
theorem dX0_needOf_31 : decode cX0_needOf 31 = .ok (.invokevirtual 66, 3) := by decide +kernel
theorem dX0_needOf_34 : decode cX0_needOf 34 = .ok (.ifCond .eq 12, 3) := by decide +kernel
theorem dX0_needOf_37 : decode cX0_needOf 37 = .ok (.aload_n 0, 1) := by decide +kernel
theorem dX0_needOf_38 : decode cX0_needOf 38 = .ok (.getfield 15, 3) := by decide +kernel
theorem dX0_needOf_41 : decode cX0_needOf 41 = .ok (.iload_n 2, 1) := by decide +kernel
theorem dX0_needOf_42 : decode cX0_needOf 42 = .ok (.iaload, 1) := by decide +kernel
theorem dX0_needOf_43 : decode cX0_needOf 43 = .ok (.goto 4, 3) := by decide +kernel
theorem dX0_needOf_46 : decode cX0_needOf 46 = .ok (.iconst (-1), 1) := by decide +kernel
theorem dX0_needOf_47 : decode cX0_needOf 47 = .ok (.aload_n 0, 1) := by decide +kernel
theorem dX0_needOf_48 : decode cX0_needOf 48 = .ok (.getfield 15, 3) := by decide +kernel
theorem dX0_needOf_51 : decode cX0_needOf 51 = .ok (.iload_n 1, 1) := by decide +kernel
theorem dX0_needOf_52 : decode cX0_needOf 52 = .ok (.iaload, 1) := by decide +kernel
theorem dX0_needOf_53 : decode cX0_needOf 53 = .ok (.invokestatic 77, 3) := by decide +kernel
theorem dX0_needOf_56 : decode cX0_needOf 56 = .ok (.ireturn, 1) := by decide +kernel
theorem dX0_freeIn_0 : decode cX0_freeIn 0 = .ok (.aload_n 0, 1) := by decide +kernel
theorem dX0_freeIn_1 : decode cX0_freeIn 1 = .ok (.iload_n 1, 1) := by decide +kernel
theorem dX0_freeIn_2 : decode cX0_freeIn 2 = .ok (.invokevirtual 80, 3) := by decide +kernel
theorem dX0_freeIn_5 : decode cX0_freeIn 5 = .ok (.istore_n 2, 1) := by decide +kernel
theorem dX0_freeIn_6 : decode cX0_freeIn 6 = .ok (.iconst 0, 1) := by decide +kernel
theorem dX0_freeIn_7 : decode cX0_freeIn 7 = .ok (.istore_n 3, 1) := by decide +kernel
theorem dX0_freeIn_8 : decode cX0_freeIn 8 = .ok (.iload_n 3, 1) := by decide +kernel
theorem dX0_freeIn_9 : decode cX0_freeIn 9 = .ok (.bipush 7, 2) := by decide +kernel
theorem dX0_freeIn_11 : decode cX0_freeIn 11 = .ok (.if_icmp .ge 27, 3) := by decide +kernel
theorem dX0_freeIn_14 : decode cX0_freeIn 14 = .ok (.aload_n 0, 1) := by decide +kernel
theorem dX0_freeIn_15 : decode cX0_freeIn 15 = .ok (.getfield 21, 3) := by decide +kernel
theorem dX0_freeIn_18 : decode cX0_freeIn 18 = .ok (.iload_n 3, 1) := by decide +kernel
theorem dX0_freeIn_19 : decode cX0_freeIn 19 = .ok (.iaload, 1) := by decide +kernel
theorem dX0_freeIn_20 : decode cX0_freeIn 20 = .ok (.iload_n 1, 1) := by decide +kernel
theorem dX0_freeIn_21 : decode cX0_freeIn 21 = .ok (.if_icmp .ne 11, 3) := by decide +kernel
theorem dX0_freeIn_24 : decode cX0_freeIn 24 = .ok (.iload_n 2, 1) := by decide +kernel
theorem dX0_freeIn_25 : decode cX0_freeIn 25 = .ok (.aload_n 0, 1) := by decide +kernel
theorem dX0_freeIn_26 : decode cX0_freeIn 26 = .ok (.iload_n 3, 1) := by decide +kernel
theorem dX0_freeIn_27 : decode cX0_freeIn 27 = .ok (.invokevirtual 83, 3) := by decide +kernel
theorem dX0_freeIn_30 : decode cX0_freeIn 30 = .ok (.isub, 1) := by decide +kernel
theorem dX0_freeIn_31 : decode cX0_freeIn 31 = .ok (.istore_n 2, 1) := by decide +kernel
theorem dX0_freeIn_32 : decode cX0_freeIn 32 = .ok (.iinc 3 1, 3) := by decide +kernel
theorem dX0_freeIn_35 : decode cX0_freeIn 35 = .ok (.goto (-27), 3) := by decide +kernel
theorem dX0_freeIn_38 : decode cX0_freeIn 38 = .ok (.iload_n 2, 1) := by decide +kernel
theorem dX0_freeIn_39 : decode cX0_freeIn 39 = .ok (.ireturn, 1) := by decide +kernel
theorem dX0_hasRoomFor_0 : decode cX0_hasRoomFor 0 = .ok (.aload_n 0, 1) := by decide +kernel
theorem dX0_hasRoomFor_1 : decode cX0_hasRoomFor 1 = .ok (.iload_n 1, 1) := by decide +kernel
theorem dX0_hasRoomFor_2 : decode cX0_hasRoomFor 2 = .ok (.invokevirtual 66, 3) := by decide +kernel
theorem dX0_hasRoomFor_5 : decode cX0_hasRoomFor 5 = .ok (.ifCond .eq 20, 3) := by decide +kernel
theorem dX0_hasRoomFor_8 : decode cX0_hasRoomFor 8 = .ok (.aload_n 0, 1) := by decide +kernel
theorem dX0_hasRoomFor_9 : decode cX0_hasRoomFor 9 = .ok (.iload_n 2, 1) := by decide +kernel
theorem dX0_hasRoomFor_10 : decode cX0_hasRoomFor 10 = .ok (.invokevirtual 62, 3) := by decide +kernel
theorem dX0_hasRoomFor_13 : decode cX0_hasRoomFor 13 = .ok (.ifCond .eq 12, 3) := by decide +kernel
theorem dX0_hasRoomFor_16 : decode cX0_hasRoomFor 16 = .ok (.aload_n 0, 1) := by decide +kernel
theorem dX0_hasRoomFor_17 : decode cX0_hasRoomFor 17 = .ok (.iload_n 1, 1) := by decide +kernel
theorem dX0_hasRoomFor_18 : decode cX0_hasRoomFor 18 = .ok (.invokevirtual 86, 3) := by decide +kernel
theorem dX0_hasRoomFor_21 : decode cX0_hasRoomFor 21 = .ok (.iload_n 2, 1) := by decide +kernel
theorem dX0_hasRoomFor_22 : decode cX0_hasRoomFor 22 = .ok (.if_icmp .ne 5, 3) := by decide +kernel
theorem dX0_hasRoomFor_25 : decode cX0_hasRoomFor 25 = .ok (.iconst 0, 1) := by decide +kernel
theorem dX0_hasRoomFor_26 : decode cX0_hasRoomFor 26 = .ok (.ireturn, 1) := by decide +kernel
theorem dX0_hasRoomFor_27 : decode cX0_hasRoomFor 27 = .ok (.aload_n 0, 1) := by decide +kernel
theorem dX0_hasRoomFor_28 : decode cX0_hasRoomFor 28 = .ok (.aload_n 0, 1) := by decide +kernel
theorem dX0_hasRoomFor_29 : decode cX0_hasRoomFor 29 = .ok (.iload_n 2, 1) := by decide +kernel
theorem dX0_hasRoomFor_30 : decode cX0_hasRoomFor 30 = .ok (.invokevirtual 89, 3) := by decide +kernel
theorem dX0_hasRoomFor_33 : decode cX0_hasRoomFor 33 = .ok (.invokevirtual 92, 3) := by decide +kernel
theorem dX0_hasRoomFor_36 : decode cX0_hasRoomFor 36 = .ok (.istore_n 3, 1) := by decide +kernel
theorem dX0_hasRoomFor_37 : decode cX0_hasRoomFor 37 = .ok (.iload_n 3, 1) := by decide +kernel
theorem dX0_hasRoomFor_38 : decode cX0_hasRoomFor 38 = .ok (.iconst 3, 1) := by decide +kernel
theorem dX0_hasRoomFor_39 : decode cX0_hasRoomFor 39 = .ok (.if_icmp .eq 24, 3) := by decide +kernel
theorem dX0_hasRoomFor_42 : decode cX0_hasRoomFor 42 = .ok (.iload_n 3, 1) := by decide +kernel
theorem dX0_hasRoomFor_43 : decode cX0_hasRoomFor 43 = .ok (.aload_n 0, 1) := by decide +kernel
theorem dX0_hasRoomFor_44 : decode cX0_hasRoomFor 44 = .ok (.iload_n 1, 1) := by decide +kernel
theorem dX0_hasRoomFor_45 : decode cX0_hasRoomFor 45 = .ok (.invokevirtual 92, 3) := by decide +kernel
theorem dX0_hasRoomFor_48 : decode cX0_hasRoomFor 48 = .ok (.invokestatic 77, 3) := by decide +kernel
theorem dX0_hasRoomFor_51 : decode cX0_hasRoomFor 51 = .ok (.aload_n 0, 1) := by decide +kernel
theorem dX0_hasRoomFor_52 : decode cX0_hasRoomFor 52 = .ok (.iload_n 2, 1) := by decide +kernel
theorem dX0_hasRoomFor_53 : decode cX0_hasRoomFor 53 = .ok (.invokevirtual 95, 3) := by decide +kernel
theorem dX0_hasRoomFor_56 : decode cX0_hasRoomFor 56 = .ok (.if_icmp .gt 7, 3) := by decide +kernel
theorem dX0_hasRoomFor_59 : decode cX0_hasRoomFor 59 = .ok (.iconst 1, 1) := by decide +kernel
theorem dX0_hasRoomFor_60 : decode cX0_hasRoomFor 60 = .ok (.goto 4, 3) := by decide +kernel
theorem dX0_hasRoomFor_63 : decode cX0_hasRoomFor 63 = .ok (.iconst 0, 1) := by decide +kernel
theorem dX0_hasRoomFor_64 : decode cX0_hasRoomFor 64 = .ok (.ireturn, 1) := by decide +kernel
theorem dX0_canBePutIn_0 : decode cX0_canBePutIn 0 = .ok (.aload_n 0, 1) := by decide +kernel
theorem dX0_canBePutIn_1 : decode cX0_canBePutIn 1 = .ok (.iload_n 1, 1) := by decide +kernel
theorem dX0_canBePutIn_2 : decode cX0_canBePutIn 2 = .ok (.invokevirtual 98, 3) := by decide +kernel
theorem dX0_canBePutIn_5 : decode cX0_canBePutIn 5 = .ok (.ifCond .ne 23, 3) := by decide +kernel
theorem dX0_canBePutIn_8 : decode cX0_canBePutIn 8 = .ok (.aload_n 0, 1) := by decide +kernel
theorem dX0_canBePutIn_9 : decode cX0_canBePutIn 9 = .ok (.invokevirtual 101, 3) := by decide +kernel
theorem dX0_canBePutIn_12 : decode cX0_canBePutIn 12 = .ok (.ifCond .ne 16, 3) := by decide +kernel
theorem dX0_canBePutIn_15 : decode cX0_canBePutIn 15 = .ok (.aload_n 0, 1) := by decide +kernel
theorem dX0_canBePutIn_16 : decode cX0_canBePutIn 16 = .ok (.iload_n 1, 1) := by decide +kernel
theorem dX0_canBePutIn_17 : decode cX0_canBePutIn 17 = .ok (.iload_n 2, 1) := by decide +kernel
theorem dX0_canBePutIn_18 : decode cX0_canBePutIn 18 = .ok (.invokevirtual 55, 3) := by decide +kernel
theorem dX0_canBePutIn_21 : decode cX0_canBePutIn 21 = .ok (.ifCond .eq 7, 3) := by decide +kernel
theorem dX0_canBePutIn_24 : decode cX0_canBePutIn 24 = .ok (.iconst 1, 1) := by decide +kernel
theorem dX0_canBePutIn_25 : decode cX0_canBePutIn 25 = .ok (.goto 4, 3) := by decide +kernel
theorem dX0_canBePutIn_28 : decode cX0_canBePutIn 28 = .ok (.iconst 0, 1) := by decide +kernel
theorem dX0_canBePutIn_29 : decode cX0_canBePutIn 29 = .ok (.ireturn, 1) := by decide +kernel
theorem dX0_setOnTop_0 : decode cX0_setOnTop 0 = .ok (.aload_n 0, 1) := by decide +kernel
theorem dX0_setOnTop_1 : decode cX0_setOnTop 1 = .ok (.iload_n 1, 1) := by decide +kernel
theorem dX0_setOnTop_2 : decode cX0_setOnTop 2 = .ok (.invokevirtual 66, 3) := by decide +kernel
theorem dX0_setOnTop_5 : decode cX0_setOnTop 5 = .ok (.ifCond .eq 29, 3) := by decide +kernel
theorem dX0_setOnTop_8 : decode cX0_setOnTop 8 = .ok (.aload_n 0, 1) := by decide +kernel
theorem dX0_setOnTop_9 : decode cX0_setOnTop 9 = .ok (.iload_n 2, 1) := by decide +kernel
theorem dX0_setOnTop_10 : decode cX0_setOnTop 10 = .ok (.invokevirtual 62, 3) := by decide +kernel
theorem dX0_setOnTop_13 : decode cX0_setOnTop 13 = .ok (.ifCond .eq 21, 3) := by decide +kernel
theorem dX0_setOnTop_16 : decode cX0_setOnTop 16 = .ok (.aload_n 0, 1) := by decide +kernel
theorem dX0_setOnTop_17 : decode cX0_setOnTop 17 = .ok (.getfield 24, 3) := by decide +kernel
theorem dX0_setOnTop_20 : decode cX0_setOnTop 20 = .ok (.iload_n 1, 1) := by decide +kernel
theorem dX0_setOnTop_21 : decode cX0_setOnTop 21 = .ok (.aload_n 0, 1) := by decide +kernel
theorem dX0_setOnTop_22 : decode cX0_setOnTop 22 = .ok (.iload_n 2, 1) := by decide +kernel
theorem dX0_setOnTop_23 : decode cX0_setOnTop 23 = .ok (.invokevirtual 69, 3) := by decide +kernel
theorem dX0_setOnTop_26 : decode cX0_setOnTop 26 = .ok (.iastore, 1) := by decide +kernel
theorem dX0_setOnTop_27 : decode cX0_setOnTop 27 = .ok (.aload_n 0, 1) := by decide +kernel
theorem dX0_setOnTop_28 : decode cX0_setOnTop 28 = .ok (.getfield 21, 3) := by decide +kernel
theorem dX0_setOnTop_31 : decode cX0_setOnTop 31 = .ok (.iload_n 1, 1) := by decide +kernel
theorem dX0_setOnTop_32 : decode cX0_setOnTop 32 = .ok (.iload_n 2, 1) := by decide +kernel
theorem dX0_setOnTop_33 : decode cX0_setOnTop 33 = .ok (.iastore, 1) := by decide +kernel
theorem dX0_setOnTop_34 : decode cX0_setOnTop 34 = .ok (.return_, 1) := by decide +kernel
theorem dX0_setKind_0 : decode cX0_setKind 0 = .ok (.aload_n 0, 1) := by decide +kernel
theorem dX0_setKind_1 : decode cX0_setKind 1 = .ok (.iload_n 1, 1) := by decide +kernel
theorem dX0_setKind_2 : decode cX0_setKind 2 = .ok (.invokevirtual 66, 3) := by decide +kernel
theorem dX0_setKind_5 : decode cX0_setKind 5 = .ok (.ifCond .eq 10, 3) := by decide +kernel
theorem dX0_setKind_8 : decode cX0_setKind 8 = .ok (.aload_n 0, 1) := by decide +kernel
theorem dX0_setKind_9 : decode cX0_setKind 9 = .ok (.getfield 15, 3) := by decide +kernel
theorem dX0_setKind_12 : decode cX0_setKind 12 = .ok (.iload_n 1, 1) := by decide +kernel
theorem dX0_setKind_13 : decode cX0_setKind 13 = .ok (.iload_n 2, 1) := by decide +kernel
theorem dX0_setKind_14 : decode cX0_setKind 14 = .ok (.iastore, 1) := by decide +kernel
theorem dX0_setKind_15 : decode cX0_setKind 15 = .ok (.return_, 1) := by decide +kernel
theorem dX0_deepen_0 : decode cX0_deepen 0 = .ok (.aload_n 0, 1) := by decide +kernel
theorem dX0_deepen_1 : decode cX0_deepen 1 = .ok (.iload_n 1, 1) := by decide +kernel
theorem dX0_deepen_2 : decode cX0_deepen 2 = .ok (.invokevirtual 62, 3) := by decide +kernel
theorem dX0_deepen_5 : decode cX0_deepen 5 = .ok (.ifCond .eq 13, 3) := by decide +kernel
theorem dX0_deepen_8 : decode cX0_deepen 8 = .ok (.aload_n 0, 1) := by decide +kernel
theorem dX0_deepen_9 : decode cX0_deepen 9 = .ok (.getfield 9, 3) := by decide +kernel
theorem dX0_deepen_12 : decode cX0_deepen 12 = .ok (.iload_n 1, 1) := by decide +kernel
theorem dX0_deepen_13 : decode cX0_deepen 13 = .ok (.dup2, 1) := by decide +kernel
theorem dX0_deepen_14 : decode cX0_deepen 14 = .ok (.iaload, 1) := by decide +kernel
theorem dX0_deepen_15 : decode cX0_deepen 15 = .ok (.iconst 1, 1) := by decide +kernel
theorem dX0_deepen_16 : decode cX0_deepen 16 = .ok (.iadd, 1) := by decide +kernel
theorem dX0_deepen_17 : decode cX0_deepen 17 = .ok (.iastore, 1) := by decide +kernel
theorem dX0_deepen_18 : decode cX0_deepen 18 = .ok (.return_, 1) := by decide +kernel
theorem dX0_isAbove_0 : decode cX0_isAbove 0 = .ok (.aload_n 0, 1) := by decide +kernel
theorem dX0_isAbove_1 : decode cX0_isAbove 1 = .ok (.iload_n 2, 1) := by decide +kernel
theorem dX0_isAbove_2 : decode cX0_isAbove 2 = .ok (.invokevirtual 98, 3) := by decide +kernel
theorem dX0_isAbove_5 : decode cX0_isAbove 5 = .ok (.ifCond .eq 33, 3) := by decide +kernel
theorem dX0_isAbove_8 : decode cX0_isAbove 8 = .ok (.aload_n 0, 1) := by decide +kernel
theorem dX0_isAbove_9 : decode cX0_isAbove 9 = .ok (.iload_n 1, 1) := by decide +kernel
theorem dX0_isAbove_10 : decode cX0_isAbove 10 = .ok (.invokevirtual 86, 3) := by decide +kernel
theorem dX0_isAbove_13 : decode cX0_isAbove 13 = .ok (.aload_n 0, 1) := by decide +kernel
theorem dX0_isAbove_14 : decode cX0_isAbove 14 = .ok (.iload_n 2, 1) := by decide +kernel
theorem dX0_isAbove_15 : decode cX0_isAbove 15 = .ok (.invokevirtual 86, 3) := by decide +kernel
theorem dX0_isAbove_18 : decode cX0_isAbove 18 = .ok (.if_icmp .ne 20, 3) := by decide +kernel
theorem dX0_isAbove_21 : decode cX0_isAbove 21 = .ok (.aload_n 0, 1) := by decide +kernel
theorem dX0_isAbove_22 : decode cX0_isAbove 22 = .ok (.iload_n 1, 1) := by decide +kernel
theorem dX0_isAbove_23 : decode cX0_isAbove 23 = .ok (.invokevirtual 105, 3) := by decide +kernel
theorem dX0_isAbove_26 : decode cX0_isAbove 26 = .ok (.aload_n 0, 1) := by decide +kernel
theorem dX0_isAbove_27 : decode cX0_isAbove 27 = .ok (.iload_n 2, 1) := by decide +kernel
theorem dX0_isAbove_28 : decode cX0_isAbove 28 = .ok (.invokevirtual 105, 3) := by decide +kernel
theorem dX0_isAbove_31 : decode cX0_isAbove 31 = .ok (.if_icmp .le 7, 3) := by decide +kernel
theorem dX0_isAbove_34 : decode cX0_isAbove 34 = .ok (.iconst 1, 1) := by decide +kernel
theorem dX0_isAbove_35 : decode cX0_isAbove 35 = .ok (.goto 4, 3) := by decide +kernel
theorem dX0_isAbove_38 : decode cX0_isAbove 38 = .ok (.iconst 0, 1) := by decide +kernel
theorem dX0_isAbove_39 : decode cX0_isAbove 39 = .ok (.ireturn, 1) := by decide +kernel
theorem dX0_bitsAbove_0 : decode cX0_bitsAbove 0 = .ok (.iconst 0, 1) := by decide +kernel
theorem dX0_bitsAbove_1 : decode cX0_bitsAbove 1 = .ok (.istore_n 2, 1) := by decide +kernel
theorem dX0_bitsAbove_2 : decode cX0_bitsAbove 2 = .ok (.iconst 0, 1) := by decide +kernel
theorem dX0_bitsAbove_3 : decode cX0_bitsAbove 3 = .ok (.istore_n 3, 1) := by decide +kernel
theorem dX0_bitsAbove_4 : decode cX0_bitsAbove 4 = .ok (.iload_n 3, 1) := by decide +kernel
theorem dX0_bitsAbove_5 : decode cX0_bitsAbove 5 = .ok (.aload_n 0, 1) := by decide +kernel
theorem dX0_bitsAbove_6 : decode cX0_bitsAbove 6 = .ok (.getfield 34, 3) := by decide +kernel
theorem dX0_bitsAbove_9 : decode cX0_bitsAbove 9 = .ok (.if_icmp .ge 24, 3) := by decide +kernel
theorem dX0_bitsAbove_12 : decode cX0_bitsAbove 12 = .ok (.aload_n 0, 1) := by decide +kernel
theorem dX0_bitsAbove_13 : decode cX0_bitsAbove 13 = .ok (.iload_n 3, 1) := by decide +kernel
theorem dX0_bitsAbove_14 : decode cX0_bitsAbove 14 = .ok (.iload_n 1, 1) := by decide +kernel
theorem dX0_bitsAbove_15 : decode cX0_bitsAbove 15 = .ok (.invokevirtual 108, 3) := by decide +kernel
theorem dX0_bitsAbove_18 : decode cX0_bitsAbove 18 = .ok (.ifCond .eq 9, 3) := by decide +kernel
theorem dX0_bitsAbove_21 : decode cX0_bitsAbove 21 = .ok (.iload_n 2, 1) := by decide +kernel
theorem dX0_bitsAbove_22 : decode cX0_bitsAbove 22 = .ok (.iconst 1, 1) := by decide +kernel
theorem dX0_bitsAbove_23 : decode cX0_bitsAbove 23 = .ok (.iload_n 3, 1) := by decide +kernel
theorem dX0_bitsAbove_24 : decode cX0_bitsAbove 24 = .ok (.ishl, 1) := by decide +kernel
theorem dX0_bitsAbove_25 : decode cX0_bitsAbove 25 = .ok (.ior, 1) := by decide +kernel
theorem dX0_bitsAbove_26 : decode cX0_bitsAbove 26 = .ok (.istore_n 2, 1) := by decide +kernel
theorem dX0_bitsAbove_27 : decode cX0_bitsAbove 27 = .ok (.iinc 3 1, 3) := by decide +kernel
theorem dX0_bitsAbove_30 : decode cX0_bitsAbove 30 = .ok (.goto (-26), 3) := by decide +kernel
theorem dX0_bitsAbove_33 : decode cX0_bitsAbove 33 = .ok (.iload_n 2, 1) := by decide +kernel
theorem dX0_bitsAbove_34 : decode cX0_bitsAbove 34 = .ok (.ireturn, 1) := by decide +kernel
theorem dX0_takeUp_0 : decode cX0_takeUp 0 = .ok (.aload_n 0, 1) := by decide +kernel
theorem dX0_takeUp_1 : decode cX0_takeUp 1 = .ok (.iload_n 1, 1) := by decide +kernel
theorem dX0_takeUp_2 : decode cX0_takeUp 2 = .ok (.invokevirtual 98, 3) := by decide +kernel
theorem dX0_takeUp_5 : decode cX0_takeUp 5 = .ok (.ifCond .ne 5, 3) := by decide +kernel
theorem dX0_takeUp_8 : decode cX0_takeUp 8 = .ok (.iconst 0, 1) := by decide +kernel
theorem dX0_takeUp_9 : decode cX0_takeUp 9 = .ok (.ireturn, 1) := by decide +kernel
theorem dX0_takeUp_10 : decode cX0_takeUp 10 = .ok (.iconst 0, 1) := by decide +kernel
theorem dX0_takeUp_11 : decode cX0_takeUp 11 = .ok (.istore_n 2, 1) := by decide +kernel
theorem dX0_takeUp_12 : decode cX0_takeUp 12 = .ok (.iconst 0, 1) := by decide +kernel
theorem dX0_takeUp_13 : decode cX0_takeUp 13 = .ok (.istore_n 3, 1) := by decide +kernel
theorem dX0_takeUp_14 : decode cX0_takeUp 14 = .ok (.iload_n 3, 1) := by decide +kernel
theorem dX0_takeUp_15 : decode cX0_takeUp 15 = .ok (.bipush 7, 2) := by decide +kernel
theorem dX0_takeUp_17 : decode cX0_takeUp 17 = .ok (.if_icmp .ge 31, 3) := by decide +kernel
theorem dX0_takeUp_20 : decode cX0_takeUp 20 = .ok (.aload_n 0, 1) := by decide +kernel
theorem dX0_takeUp_21 : decode cX0_takeUp 21 = .ok (.iload_n 3, 1) := by decide +kernel
theorem dX0_takeUp_22 : decode cX0_takeUp 22 = .ok (.iload_n 1, 1) := by decide +kernel
theorem dX0_takeUp_23 : decode cX0_takeUp 23 = .ok (.invokevirtual 108, 3) := by decide +kernel
theorem dX0_takeUp_26 : decode cX0_takeUp 26 = .ok (.ifCond .eq 16, 3) := by decide +kernel
theorem dX0_takeUp_29 : decode cX0_takeUp 29 = .ok (.aload_n 0, 1) := by decide +kernel
theorem dX0_takeUp_30 : decode cX0_takeUp 30 = .ok (.getfield 24, 3) := by decide +kernel
theorem dX0_takeUp_33 : decode cX0_takeUp 33 = .ok (.iload_n 3, 1) := by decide +kernel
theorem dX0_takeUp_34 : decode cX0_takeUp 34 = .ok (.dup2, 1) := by decide +kernel
theorem dX0_takeUp_35 : decode cX0_takeUp 35 = .ok (.iaload, 1) := by decide +kernel
theorem dX0_takeUp_36 : decode cX0_takeUp 36 = .ok (.iconst 1, 1) := by decide +kernel
theorem dX0_takeUp_37 : decode cX0_takeUp 37 = .ok (.isub, 1) := by decide +kernel
theorem dX0_takeUp_38 : decode cX0_takeUp 38 = .ok (.iastore, 1) := by decide +kernel
theorem dX0_takeUp_39 : decode cX0_takeUp 39 = .ok (.iinc 2 1, 3) := by decide +kernel
theorem dX0_takeUp_42 : decode cX0_takeUp 42 = .ok (.iinc 3 1, 3) := by decide +kernel
theorem dX0_takeUp_45 : decode cX0_takeUp 45 = .ok (.goto (-31), 3) := by decide +kernel
theorem dX0_takeUp_48 : decode cX0_takeUp 48 = .ok (.aload_n 0, 1) := by decide +kernel
theorem dX0_takeUp_49 : decode cX0_takeUp 49 = .ok (.getfield 21, 3) := by decide +kernel
theorem dX0_takeUp_52 : decode cX0_takeUp 52 = .ok (.iload_n 1, 1) := by decide +kernel
theorem dX0_takeUp_53 : decode cX0_takeUp 53 = .ok (.bipush (-4), 2) := by decide +kernel
theorem dX0_takeUp_55 : decode cX0_takeUp 55 = .ok (.iastore, 1) := by decide +kernel
theorem dX0_takeUp_56 : decode cX0_takeUp 56 = .ok (.aload_n 0, 1) := by decide +kernel
theorem dX0_takeUp_57 : decode cX0_takeUp 57 = .ok (.dup, 1) := by decide +kernel
theorem dX0_takeUp_58 : decode cX0_takeUp 58 = .ok (.getfield 40, 3) := by decide +kernel
theorem dX0_takeUp_61 : decode cX0_takeUp 61 = .ok (.iload_n 2, 1) := by decide +kernel
theorem dX0_takeUp_62 : decode cX0_takeUp 62 = .ok (.iadd, 1) := by decide +kernel
theorem dX0_takeUp_63 : decode cX0_takeUp 63 = .ok (.putfield 40, 3) := by decide +kernel
theorem dX0_takeUp_66 : decode cX0_takeUp 66 = .ok (.iload_n 2, 1) := by decide +kernel
theorem dX0_takeUp_67 : decode cX0_takeUp 67 = .ok (.ireturn, 1) := by decide +kernel
theorem dX0_isLoose_0 : decode cX0_isLoose 0 = .ok (.iload_n 0, 1) := by decide +kernel
theorem dX0_isLoose_1 : decode cX0_isLoose 1 = .ok (.ifCond .eq 8, 3) := by decide +kernel
theorem dX0_isLoose_4 : decode cX0_isLoose 4 = .ok (.iload_n 0, 1) := by decide +kernel
theorem dX0_isLoose_5 : decode cX0_isLoose 5 = .ok (.iconst 2, 1) := by decide +kernel
theorem dX0_isLoose_6 : decode cX0_isLoose 6 = .ok (.if_icmp .ne 7, 3) := by decide +kernel
theorem dX0_isLoose_9 : decode cX0_isLoose 9 = .ok (.iconst 1, 1) := by decide +kernel
theorem dX0_isLoose_10 : decode cX0_isLoose 10 = .ok (.goto 4, 3) := by decide +kernel
theorem dX0_isLoose_13 : decode cX0_isLoose 13 = .ok (.iconst 0, 1) := by decide +kernel
theorem dX0_isLoose_14 : decode cX0_isLoose 14 = .ok (.ireturn, 1) := by decide +kernel
theorem dX0_rabbitPlot_0 : decode cX0_rabbitPlot 0 = .ok (.aload_n 0, 1) := by decide +kernel
theorem dX0_rabbitPlot_1 : decode cX0_rabbitPlot 1 = .ok (.getfield 30, 3) := by decide +kernel
theorem dX0_rabbitPlot_4 : decode cX0_rabbitPlot 4 = .ok (.ifCond .le 12, 3) := by decide +kernel
theorem dX0_rabbitPlot_7 : decode cX0_rabbitPlot 7 = .ok (.iload_n 1, 1) := by decide +kernel
theorem dX0_rabbitPlot_8 : decode cX0_rabbitPlot 8 = .ok (.aload_n 0, 1) := by decide +kernel
theorem dX0_rabbitPlot_9 : decode cX0_rabbitPlot 9 = .ok (.getfield 30, 3) := by decide +kernel
theorem dX0_rabbitPlot_12 : decode cX0_rabbitPlot 12 = .ok (.irem, 1) := by decide +kernel
theorem dX0_rabbitPlot_13 : decode cX0_rabbitPlot 13 = .ok (.goto 5, 3) := by decide +kernel
theorem dX0_rabbitPlot_16 : decode cX0_rabbitPlot 16 = .ok (.bipush (-4), 2) := by decide +kernel
theorem dX0_rabbitPlot_18 : decode cX0_rabbitPlot 18 = .ok (.ireturn, 1) := by decide +kernel
theorem dX0_passYears_0 : decode cX0_passYears 0 = .ok (.iconst 0, 1) := by decide +kernel
theorem dX0_passYears_1 : decode cX0_passYears 1 = .ok (.istore_n 2, 1) := by decide +kernel
theorem dX0_passYears_2 : decode cX0_passYears 2 = .ok (.iconst 0, 1) := by decide +kernel
theorem dX0_passYears_3 : decode cX0_passYears 3 = .ok (.istore_n 3, 1) := by decide +kernel
theorem dX0_passYears_4 : decode cX0_passYears 4 = .ok (.iload_n 3, 1) := by decide +kernel
theorem dX0_passYears_5 : decode cX0_passYears 5 = .ok (.iload_n 1, 1) := by decide +kernel
theorem dX0_passYears_6 : decode cX0_passYears 6 = .ok (.if_icmp .ge 66, 3) := by decide +kernel
theorem dX0_passYears_9 : decode cX0_passYears 9 = .ok (.aload_n 0, 1) := by decide +kernel
theorem dX0_passYears_10 : decode cX0_passYears 10 = .ok (.aload_n 0, 1) := by decide +kernel
theorem dX0_passYears_11 : decode cX0_passYears 11 = .ok (.aload_n 0, 1) := by decide +kernel
theorem dX0_passYears_12 : decode cX0_passYears 12 = .ok (.getfield 37, 3) := by decide +kernel
theorem dX0_passYears_15 : decode cX0_passYears 15 = .ok (.invokevirtual 111, 3) := by decide +kernel
theorem dX0_passYears_18 : decode cX0_passYears 18 = .ok (.invokevirtual 89, 3) := by decide +kernel
theorem dX0_passYears_21 : decode cX0_passYears 21 = .ok (.istore 4, 2) := by decide +kernel
theorem dX0_passYears_23 : decode cX0_passYears 23 = .ok (.aload_n 0, 1) := by decide +kernel
theorem dX0_passYears_24 : decode cX0_passYears 24 = .ok (.iload 4, 2) := by decide +kernel
theorem dX0_passYears_26 : decode cX0_passYears 26 = .ok (.invokevirtual 66, 3) := by decide +kernel
theorem dX0_passYears_29 : decode cX0_passYears 29 = .ok (.ifCond .eq 27, 3) := by decide +kernel
theorem dX0_passYears_32 : decode cX0_passYears 32 = .ok (.aload_n 0, 1) := by decide +kernel
theorem dX0_passYears_33 : decode cX0_passYears 33 = .ok (.iload 4, 2) := by decide +kernel
theorem dX0_passYears_35 : decode cX0_passYears 35 = .ok (.invokevirtual 92, 3) := by decide +kernel
theorem dX0_passYears_38 : decode cX0_passYears 38 = .ok (.invokestatic 114, 3) := by decide +kernel
theorem dX0_passYears_41 : decode cX0_passYears 41 = .ok (.ifCond .eq 15, 3) := by decide +kernel
theorem dX0_passYears_44 : decode cX0_passYears 44 = .ok (.aload_n 0, 1) := by decide +kernel
theorem dX0_passYears_45 : decode cX0_passYears 45 = .ok (.getfield 21, 3) := by decide +kernel
theorem dX0_passYears_48 : decode cX0_passYears 48 = .ok (.iload 4, 2) := by decide +kernel
theorem dX0_passYears_50 : decode cX0_passYears 50 = .ok (.bipush (-4), 2) := by decide +kernel
theorem dX0_passYears_52 : decode cX0_passYears 52 = .ok (.iastore, 1) := by decide +kernel
theorem dX0_passYears_53 : decode cX0_passYears 53 = .ok (.iinc 2 1, 3) := by decide +kernel
theorem dX0_passYears_56 : decode cX0_passYears 56 = .ok (.aload_n 0, 1) := by decide +kernel
theorem dX0_passYears_57 : decode cX0_passYears 57 = .ok (.dup, 1) := by decide +kernel
theorem dX0_passYears_58 : decode cX0_passYears 58 = .ok (.getfield 37, 3) := by decide +kernel
theorem dX0_passYears_61 : decode cX0_passYears 61 = .ok (.iconst 1, 1) := by decide +kernel
theorem dX0_passYears_62 : decode cX0_passYears 62 = .ok (.iadd, 1) := by decide +kernel
theorem dX0_passYears_63 : decode cX0_passYears 63 = .ok (.putfield 37, 3) := by decide +kernel
theorem dX0_passYears_66 : decode cX0_passYears 66 = .ok (.iinc 3 1, 3) := by decide +kernel
theorem dX0_passYears_69 : decode cX0_passYears 69 = .ok (.goto (-65), 3) := by decide +kernel
theorem dX0_passYears_72 : decode cX0_passYears 72 = .ok (.iload_n 2, 1) := by decide +kernel
theorem dX0_passYears_73 : decode cX0_passYears 73 = .ok (.ireturn, 1) := by decide +kernel
theorem dX0_visitsTo_0 : decode cX0_visitsTo 0 = .ok (.iconst 0, 1) := by decide +kernel
theorem dX0_visitsTo_1 : decode cX0_visitsTo 1 = .ok (.istore_n 3, 1) := by decide +kernel
theorem dX0_visitsTo_2 : decode cX0_visitsTo 2 = .ok (.iconst 0, 1) := by decide +kernel
theorem dX0_visitsTo_3 : decode cX0_visitsTo 3 = .ok (.istore 4, 2) := by decide +kernel
theorem dX0_visitsTo_5 : decode cX0_visitsTo 5 = .ok (.iload 4, 2) := by decide +kernel
theorem dX0_visitsTo_7 : decode cX0_visitsTo 7 = .ok (.iload_n 2, 1) := by decide +kernel
theorem dX0_visitsTo_8 : decode cX0_visitsTo 8 = .ok (.if_icmp .ge 27, 3) := by decide +kernel
theorem dX0_visitsTo_11 : decode cX0_visitsTo 11 = .ok (.aload_n 0, 1) := by decide +kernel
theorem dX0_visitsTo_12 : decode cX0_visitsTo 12 = .ok (.aload_n 0, 1) := by decide +kernel
theorem dX0_visitsTo_13 : decode cX0_visitsTo 13 = .ok (.getfield 37, 3) := by decide +kernel
theorem dX0_visitsTo_16 : decode cX0_visitsTo 16 = .ok (.iload 4, 2) := by decide +kernel
theorem dX0_visitsTo_18 : decode cX0_visitsTo 18 = .ok (.iadd, 1) := by decide +kernel
theorem dX0_visitsTo_19 : decode cX0_visitsTo 19 = .ok (.invokevirtual 111, 3) := by decide +kernel
theorem dX0_visitsTo_22 : decode cX0_visitsTo 22 = .ok (.iload_n 1, 1) := by decide +kernel
theorem dX0_visitsTo_23 : decode cX0_visitsTo 23 = .ok (.if_icmp .ne 6, 3) := by decide +kernel
theorem dX0_visitsTo_26 : decode cX0_visitsTo 26 = .ok (.iinc 3 1, 3) := by decide +kernel
theorem dX0_visitsTo_29 : decode cX0_visitsTo 29 = .ok (.iinc 4 1, 3) := by decide +kernel
theorem dX0_visitsTo_32 : decode cX0_visitsTo 32 = .ok (.goto (-27), 3) := by decide +kernel
theorem dX0_visitsTo_35 : decode cX0_visitsTo 35 = .ok (.iload_n 3, 1) := by decide +kernel
theorem dX0_visitsTo_36 : decode cX0_visitsTo 36 = .ok (.ireturn, 1) := by decide +kernel
theorem dX0_throwsBorneBy_0 : decode cX0_throwsBorneBy 0 = .ok (.iconst 0, 1) := by decide +kernel
theorem dX0_throwsBorneBy_1 : decode cX0_throwsBorneBy 1 = .ok (.istore_n 2, 1) := by decide +kernel
theorem dX0_throwsBorneBy_2 : decode cX0_throwsBorneBy 2 = .ok (.iconst 0, 1) := by decide +kernel
theorem dX0_throwsBorneBy_3 : decode cX0_throwsBorneBy 3 = .ok (.istore_n 3, 1) := by decide +kernel
theorem dX0_throwsBorneBy_4 : decode cX0_throwsBorneBy 4 = .ok (.iload_n 3, 1) := by decide +kernel
theorem dX0_throwsBorneBy_5 : decode cX0_throwsBorneBy 5 = .ok (.aload_n 0, 1) := by decide +kernel
theorem dX0_throwsBorneBy_6 : decode cX0_throwsBorneBy 6 = .ok (.getfield 34, 3) := by decide +kernel
theorem dX0_throwsBorneBy_9 : decode cX0_throwsBorneBy 9 = .ok (.if_icmp .ge 40, 3) := by decide +kernel
theorem dX0_throwsBorneBy_12 : decode cX0_throwsBorneBy 12 = .ok (.iload_n 3, 1) := by decide +kernel
theorem dX0_throwsBorneBy_13 : decode cX0_throwsBorneBy 13 = .ok (.iload_n 1, 1) := by decide +kernel
theorem dX0_throwsBorneBy_14 : decode cX0_throwsBorneBy 14 = .ok (.if_icmp .eq 12, 3) := by decide +kernel
theorem dX0_throwsBorneBy_17 : decode cX0_throwsBorneBy 17 = .ok (.aload_n 0, 1) := by decide +kernel
theorem dX0_throwsBorneBy_18 : decode cX0_throwsBorneBy 18 = .ok (.iload_n 3, 1) := by decide +kernel
theorem dX0_throwsBorneBy_19 : decode cX0_throwsBorneBy 19 = .ok (.iload_n 1, 1) := by decide +kernel
theorem dX0_throwsBorneBy_20 : decode cX0_throwsBorneBy 20 = .ok (.invokevirtual 108, 3) := by decide +kernel
theorem dX0_throwsBorneBy_23 : decode cX0_throwsBorneBy 23 = .ok (.ifCond .eq 20, 3) := by decide +kernel
theorem dX0_throwsBorneBy_26 : decode cX0_throwsBorneBy 26 = .ok (.aload_n 0, 1) := by decide +kernel
theorem dX0_throwsBorneBy_27 : decode cX0_throwsBorneBy 27 = .ok (.iload_n 3, 1) := by decide +kernel
theorem dX0_throwsBorneBy_28 : decode cX0_throwsBorneBy 28 = .ok (.invokevirtual 92, 3) := by decide +kernel
theorem dX0_throwsBorneBy_31 : decode cX0_throwsBorneBy 31 = .ok (.invokestatic 114, 3) := by decide +kernel
theorem dX0_throwsBorneBy_34 : decode cX0_throwsBorneBy 34 = .ok (.ifCond .ne 6, 3) := by decide +kernel
theorem dX0_throwsBorneBy_37 : decode cX0_throwsBorneBy 37 = .ok (.bipush 8, 2) := by decide +kernel
theorem dX0_throwsBorneBy_39 : decode cX0_throwsBorneBy 39 = .ok (.ireturn, 1) := by decide +kernel
theorem dX0_throwsBorneBy_40 : decode cX0_throwsBorneBy 40 = .ok (.iinc 2 1, 3) := by decide +kernel
theorem dX0_throwsBorneBy_43 : decode cX0_throwsBorneBy 43 = .ok (.iinc 3 1, 3) := by decide +kernel
theorem dX0_throwsBorneBy_46 : decode cX0_throwsBorneBy 46 = .ok (.goto (-42), 3) := by decide +kernel
theorem dX0_throwsBorneBy_49 : decode cX0_throwsBorneBy 49 = .ok (.iload_n 2, 1) := by decide +kernel
theorem dX0_throwsBorneBy_50 : decode cX0_throwsBorneBy 50 = .ok (.iconst 1, 1) := by decide +kernel
theorem dX0_throwsBorneBy_51 : decode cX0_throwsBorneBy 51 = .ok (.isub, 1) := by decide +kernel
theorem dX0_throwsBorneBy_52 : decode cX0_throwsBorneBy 52 = .ok (.ireturn, 1) := by decide +kernel
theorem dX0_actByDraw_0 : decode cX0_actByDraw 0 = .ok (.aload_n 0, 1) := by decide +kernel
theorem dX0_actByDraw_1 : decode cX0_actByDraw 1 = .ok (.getfield 34, 3) := by decide +kernel
theorem dX0_actByDraw_4 : decode cX0_actByDraw 4 = .ok (.iconst 1, 1) := by decide +kernel
theorem dX0_actByDraw_5 : decode cX0_actByDraw 5 = .ok (.if_icmp .lt 11, 3) := by decide +kernel
theorem dX0_actByDraw_8 : decode cX0_actByDraw 8 = .ok (.aload_n 0, 1) := by decide +kernel
theorem dX0_actByDraw_9 : decode cX0_actByDraw 9 = .ok (.getfield 30, 3) := by decide +kernel
theorem dX0_actByDraw_12 : decode cX0_actByDraw 12 = .ok (.iconst 1, 1) := by decide +kernel
theorem dX0_actByDraw_13 : decode cX0_actByDraw 13 = .ok (.if_icmp .ge 4, 3) := by decide +kernel
theorem dX0_actByDraw_16 : decode cX0_actByDraw 16 = .ok (.return_, 1) := by decide +kernel
theorem dX0_actByDraw_17 : decode cX0_actByDraw 17 = .ok (.iload_n 1, 1) := by decide +kernel
theorem dX0_actByDraw_18 : decode cX0_actByDraw 18 = .ok (.aload_n 0, 1) := by decide +kernel
theorem dX0_actByDraw_19 : decode cX0_actByDraw 19 = .ok (.getfield 34, 3) := by decide +kernel
theorem dX0_actByDraw_22 : decode cX0_actByDraw 22 = .ok (.irem, 1) := by decide +kernel
theorem dX0_actByDraw_23 : decode cX0_actByDraw 23 = .ok (.istore_n 2, 1) := by decide +kernel
theorem dX0_actByDraw_24 : decode cX0_actByDraw 24 = .ok (.iload_n 1, 1) := by decide +kernel
theorem dX0_actByDraw_25 : decode cX0_actByDraw 25 = .ok (.bipush 8, 2) := by decide +kernel
theorem dX0_actByDraw_27 : decode cX0_actByDraw 27 = .ok (.idiv, 1) := by decide +kernel
theorem dX0_actByDraw_28 : decode cX0_actByDraw 28 = .ok (.aload_n 0, 1) := by decide +kernel
theorem dX0_actByDraw_29 : decode cX0_actByDraw 29 = .ok (.getfield 30, 3) := by decide +kernel
theorem dX0_actByDraw_32 : decode cX0_actByDraw 32 = .ok (.irem, 1) := by decide +kernel
theorem dX0_actByDraw_33 : decode cX0_actByDraw 33 = .ok (.istore_n 3, 1) := by decide +kernel
theorem dX0_actByDraw_34 : decode cX0_actByDraw 34 = .ok (.aload_n 0, 1) := by decide +kernel
theorem dX0_actByDraw_35 : decode cX0_actByDraw 35 = .ok (.iload_n 2, 1) := by decide +kernel
theorem dX0_actByDraw_36 : decode cX0_actByDraw 36 = .ok (.invokevirtual 98, 3) := by decide +kernel
theorem dX0_actByDraw_39 : decode cX0_actByDraw 39 = .ok (.ifCond .ne 21, 3) := by decide +kernel
theorem dX0_actByDraw_42 : decode cX0_actByDraw 42 = .ok (.aload_n 0, 1) := by decide +kernel
theorem dX0_actByDraw_43 : decode cX0_actByDraw 43 = .ok (.iload_n 2, 1) := by decide +kernel
theorem dX0_actByDraw_44 : decode cX0_actByDraw 44 = .ok (.iload_n 3, 1) := by decide +kernel
theorem dX0_actByDraw_45 : decode cX0_actByDraw 45 = .ok (.invokevirtual 117, 3) := by decide +kernel
theorem dX0_actByDraw_48 : decode cX0_actByDraw 48 = .ok (.ifCond .eq 27, 3) := by decide +kernel
theorem dX0_actByDraw_51 : decode cX0_actByDraw 51 = .ok (.aload_n 0, 1) := by decide +kernel
theorem dX0_actByDraw_52 : decode cX0_actByDraw 52 = .ok (.iload_n 2, 1) := by decide +kernel
theorem dX0_actByDraw_53 : decode cX0_actByDraw 53 = .ok (.iload_n 3, 1) := by decide +kernel
theorem dX0_actByDraw_54 : decode cX0_actByDraw 54 = .ok (.invokevirtual 58, 3) := by decide +kernel
theorem dX0_actByDraw_57 : decode cX0_actByDraw 57 = .ok (.goto 18, 3) := by decide +kernel
theorem dX0_actByDraw_60 : decode cX0_actByDraw 60 = .ok (.iload_n 1, 1) := by decide +kernel
theorem dX0_actByDraw_61 : decode cX0_actByDraw 61 = .ok (.bipush 64, 2) := by decide +kernel
theorem dX0_actByDraw_63 : decode cX0_actByDraw 63 = .ok (.idiv, 1) := by decide +kernel
theorem dX0_actByDraw_64 : decode cX0_actByDraw 64 = .ok (.iconst 4, 1) := by decide +kernel
theorem dX0_actByDraw_65 : decode cX0_actByDraw 65 = .ok (.irem, 1) := by decide +kernel
theorem dX0_actByDraw_66 : decode cX0_actByDraw 66 = .ok (.ifCond .ne 9, 3) := by decide +kernel
theorem dX0_actByDraw_69 : decode cX0_actByDraw 69 = .ok (.aload_n 0, 1) := by decide +kernel
theorem dX0_actByDraw_70 : decode cX0_actByDraw 70 = .ok (.iload_n 2, 1) := by decide +kernel
theorem dX0_actByDraw_71 : decode cX0_actByDraw 71 = .ok (.invokevirtual 120, 3) := by decide +kernel
theorem dX0_actByDraw_74 : decode cX0_actByDraw 74 = .ok (.pop, 1) := by decide +kernel
theorem dX0_actByDraw_75 : decode cX0_actByDraw 75 = .ok (.return_, 1) := by decide +kernel
theorem dX0_lyingCount_0 : decode cX0_lyingCount 0 = .ok (.iconst 0, 1) := by decide +kernel
theorem dX0_lyingCount_1 : decode cX0_lyingCount 1 = .ok (.istore_n 1, 1) := by decide +kernel
theorem dX0_lyingCount_2 : decode cX0_lyingCount 2 = .ok (.iconst 0, 1) := by decide +kernel
theorem dX0_lyingCount_3 : decode cX0_lyingCount 3 = .ok (.istore_n 2, 1) := by decide +kernel
theorem dX0_lyingCount_4 : decode cX0_lyingCount 4 = .ok (.iload_n 2, 1) := by decide +kernel
theorem dX0_lyingCount_5 : decode cX0_lyingCount 5 = .ok (.aload_n 0, 1) := by decide +kernel
theorem dX0_lyingCount_6 : decode cX0_lyingCount 6 = .ok (.getfield 34, 3) := by decide +kernel
theorem dX0_lyingCount_9 : decode cX0_lyingCount 9 = .ok (.if_icmp .ge 20, 3) := by decide +kernel
theorem dX0_lyingCount_12 : decode cX0_lyingCount 12 = .ok (.aload_n 0, 1) := by decide +kernel
theorem dX0_lyingCount_13 : decode cX0_lyingCount 13 = .ok (.iload_n 2, 1) := by decide +kernel
theorem dX0_lyingCount_14 : decode cX0_lyingCount 14 = .ok (.invokevirtual 98, 3) := by decide +kernel
theorem dX0_lyingCount_17 : decode cX0_lyingCount 17 = .ok (.ifCond .eq 6, 3) := by decide +kernel
theorem dX0_lyingCount_20 : decode cX0_lyingCount 20 = .ok (.iinc 1 1, 3) := by decide +kernel
theorem dX0_lyingCount_23 : decode cX0_lyingCount 23 = .ok (.iinc 2 1, 3) := by decide +kernel
theorem dX0_lyingCount_26 : decode cX0_lyingCount 26 = .ok (.goto (-22), 3) := by decide +kernel
theorem dX0_lyingCount_29 : decode cX0_lyingCount 29 = .ok (.iload_n 1, 1) := by decide +kernel
theorem dX0_lyingCount_30 : decode cX0_lyingCount 30 = .ok (.ireturn, 1) := by decide +kernel
theorem dX0_lyingWorth_0 : decode cX0_lyingWorth 0 = .ok (.iconst 0, 1) := by decide +kernel
theorem dX0_lyingWorth_1 : decode cX0_lyingWorth 1 = .ok (.istore_n 1, 1) := by decide +kernel
theorem dX0_lyingWorth_2 : decode cX0_lyingWorth 2 = .ok (.iconst 0, 1) := by decide +kernel
theorem dX0_lyingWorth_3 : decode cX0_lyingWorth 3 = .ok (.istore_n 2, 1) := by decide +kernel
theorem dX0_lyingWorth_4 : decode cX0_lyingWorth 4 = .ok (.iload_n 2, 1) := by decide +kernel
theorem dX0_lyingWorth_5 : decode cX0_lyingWorth 5 = .ok (.aload_n 0, 1) := by decide +kernel
theorem dX0_lyingWorth_6 : decode cX0_lyingWorth 6 = .ok (.getfield 34, 3) := by decide +kernel
theorem dX0_lyingWorth_9 : decode cX0_lyingWorth 9 = .ok (.if_icmp .ge 25, 3) := by decide +kernel
theorem dX0_lyingWorth_12 : decode cX0_lyingWorth 12 = .ok (.aload_n 0, 1) := by decide +kernel
theorem dX0_lyingWorth_13 : decode cX0_lyingWorth 13 = .ok (.iload_n 2, 1) := by decide +kernel
theorem dX0_lyingWorth_14 : decode cX0_lyingWorth 14 = .ok (.invokevirtual 98, 3) := by decide +kernel
theorem dX0_lyingWorth_17 : decode cX0_lyingWorth 17 = .ok (.ifCond .eq 11, 3) := by decide +kernel
theorem dX0_lyingWorth_20 : decode cX0_lyingWorth 20 = .ok (.iload_n 1, 1) := by decide +kernel
theorem dX0_lyingWorth_21 : decode cX0_lyingWorth 21 = .ok (.aload_n 0, 1) := by decide +kernel
theorem dX0_lyingWorth_22 : decode cX0_lyingWorth 22 = .ok (.iload_n 2, 1) := by decide +kernel
theorem dX0_lyingWorth_23 : decode cX0_lyingWorth 23 = .ok (.invokevirtual 123, 3) := by decide +kernel
theorem dX0_lyingWorth_26 : decode cX0_lyingWorth 26 = .ok (.iadd, 1) := by decide +kernel
theorem dX0_lyingWorth_27 : decode cX0_lyingWorth 27 = .ok (.istore_n 1, 1) := by decide +kernel
theorem dX0_lyingWorth_28 : decode cX0_lyingWorth 28 = .ok (.iinc 2 1, 3) := by decide +kernel
theorem dX0_lyingWorth_31 : decode cX0_lyingWorth 31 = .ok (.goto (-27), 3) := by decide +kernel
theorem dX0_lyingWorth_34 : decode cX0_lyingWorth 34 = .ok (.iload_n 1, 1) := by decide +kernel
theorem dX0_lyingWorth_35 : decode cX0_lyingWorth 35 = .ok (.ireturn, 1) := by decide +kernel
theorem dX0_setCount_0 : decode cX0_setCount 0 = .ok (.iconst 1, 1) := by decide +kernel
theorem dX0_setCount_1 : decode cX0_setCount 1 = .ok (.aload_n 0, 1) := by decide +kernel
theorem dX0_setCount_2 : decode cX0_setCount 2 = .ok (.getfield 34, 3) := by decide +kernel
theorem dX0_setCount_5 : decode cX0_setCount 5 = .ok (.ishl, 1) := by decide +kernel
theorem dX0_setCount_6 : decode cX0_setCount 6 = .ok (.ireturn, 1) := by decide +kernel
theorem dX0_allLie_0 : decode cX0_allLie 0 = .ok (.iconst 0, 1) := by decide +kernel
theorem dX0_allLie_1 : decode cX0_allLie 1 = .ok (.istore_n 2, 1) := by decide +kernel
theorem dX0_allLie_2 : decode cX0_allLie 2 = .ok (.iload_n 2, 1) := by decide +kernel
theorem dX0_allLie_3 : decode cX0_allLie 3 = .ok (.aload_n 0, 1) := by decide +kernel
theorem dX0_allLie_4 : decode cX0_allLie 4 = .ok (.getfield 34, 3) := by decide +kernel
theorem dX0_allLie_7 : decode cX0_allLie 7 = .ok (.if_icmp .ge 28, 3) := by decide +kernel
theorem dX0_allLie_10 : decode cX0_allLie 10 = .ok (.iload_n 1, 1) := by decide +kernel
theorem dX0_allLie_11 : decode cX0_allLie 11 = .ok (.iload_n 2, 1) := by decide +kernel
theorem dX0_allLie_12 : decode cX0_allLie 12 = .ok (.ishr, 1) := by decide +kernel
theorem dX0_allLie_13 : decode cX0_allLie 13 = .ok (.iconst 1, 1) := by decide +kernel
theorem dX0_allLie_14 : decode cX0_allLie 14 = .ok (.iand, 1) := by decide +kernel
theorem dX0_allLie_15 : decode cX0_allLie 15 = .ok (.iconst 1, 1) := by decide +kernel
theorem dX0_allLie_16 : decode cX0_allLie 16 = .ok (.if_icmp .ne 13, 3) := by decide +kernel
theorem dX0_allLie_19 : decode cX0_allLie 19 = .ok (.aload_n 0, 1) := by decide +kernel
theorem dX0_allLie_20 : decode cX0_allLie 20 = .ok (.iload_n 2, 1) := by decide +kernel
theorem dX0_allLie_21 : decode cX0_allLie 21 = .ok (.invokevirtual 98, 3) := by decide +kernel
theorem dX0_allLie_24 : decode cX0_allLie 24 = .ok (.ifCond .ne 5, 3) := by decide +kernel
theorem dX0_allLie_27 : decode cX0_allLie 27 = .ok (.iconst 0, 1) := by decide +kernel
theorem dX0_allLie_28 : decode cX0_allLie 28 = .ok (.ireturn, 1) := by decide +kernel
theorem dX0_allLie_29 : decode cX0_allLie 29 = .ok (.iinc 2 1, 3) := by decide +kernel
theorem dX0_allLie_32 : decode cX0_allLie 32 = .ok (.goto (-30), 3) := by decide +kernel
theorem dX0_allLie_35 : decode cX0_allLie 35 = .ok (.iconst 1, 1) := by decide +kernel
theorem dX0_allLie_36 : decode cX0_allLie 36 = .ok (.ireturn, 1) := by decide +kernel
theorem dX0_worthOfSet_0 : decode cX0_worthOfSet 0 = .ok (.iconst 0, 1) := by decide +kernel
theorem dX0_worthOfSet_1 : decode cX0_worthOfSet 1 = .ok (.istore_n 2, 1) := by decide +kernel
theorem dX0_worthOfSet_2 : decode cX0_worthOfSet 2 = .ok (.iconst 0, 1) := by decide +kernel
theorem dX0_worthOfSet_3 : decode cX0_worthOfSet 3 = .ok (.istore_n 3, 1) := by decide +kernel
theorem dX0_worthOfSet_4 : decode cX0_worthOfSet 4 = .ok (.iload_n 3, 1) := by decide +kernel
theorem dX0_worthOfSet_5 : decode cX0_worthOfSet 5 = .ok (.aload_n 0, 1) := by decide +kernel
theorem dX0_worthOfSet_6 : decode cX0_worthOfSet 6 = .ok (.getfield 34, 3) := by decide +kernel
theorem dX0_worthOfSet_9 : decode cX0_worthOfSet 9 = .ok (.if_icmp .ge 26, 3) := by decide +kernel
theorem dX0_worthOfSet_12 : decode cX0_worthOfSet 12 = .ok (.iload_n 1, 1) := by decide +kernel
theorem dX0_worthOfSet_13 : decode cX0_worthOfSet 13 = .ok (.iload_n 3, 1) := by decide +kernel
theorem dX0_worthOfSet_14 : decode cX0_worthOfSet 14 = .ok (.ishr, 1) := by decide +kernel
theorem dX0_worthOfSet_15 : decode cX0_worthOfSet 15 = .ok (.iconst 1, 1) := by decide +kernel
theorem dX0_worthOfSet_16 : decode cX0_worthOfSet 16 = .ok (.iand, 1) := by decide +kernel
theorem dX0_worthOfSet_17 : decode cX0_worthOfSet 17 = .ok (.iconst 1, 1) := by decide +kernel
theorem dX0_worthOfSet_18 : decode cX0_worthOfSet 18 = .ok (.if_icmp .ne 11, 3) := by decide +kernel
theorem dX0_worthOfSet_21 : decode cX0_worthOfSet 21 = .ok (.iload_n 2, 1) := by decide +kernel
theorem dX0_worthOfSet_22 : decode cX0_worthOfSet 22 = .ok (.aload_n 0, 1) := by decide +kernel
theorem dX0_worthOfSet_23 : decode cX0_worthOfSet 23 = .ok (.iload_n 3, 1) := by decide +kernel
theorem dX0_worthOfSet_24 : decode cX0_worthOfSet 24 = .ok (.invokevirtual 123, 3) := by decide +kernel
theorem dX0_worthOfSet_27 : decode cX0_worthOfSet 27 = .ok (.iadd, 1) := by decide +kernel
theorem dX0_worthOfSet_28 : decode cX0_worthOfSet 28 = .ok (.istore_n 2, 1) := by decide +kernel
theorem dX0_worthOfSet_29 : decode cX0_worthOfSet 29 = .ok (.iinc 3 1, 3) := by decide +kernel
theorem dX0_worthOfSet_32 : decode cX0_worthOfSet 32 = .ok (.goto (-28), 3) := by decide +kernel
theorem dX0_worthOfSet_35 : decode cX0_worthOfSet 35 = .ok (.iload_n 2, 1) := by decide +kernel
theorem dX0_worthOfSet_36 : decode cX0_worthOfSet 36 = .ok (.ireturn, 1) := by decide +kernel
theorem dX0_stirOf_0 : decode cX0_stirOf 0 = .ok (.iconst 0, 1) := by decide +kernel
theorem dX0_stirOf_1 : decode cX0_stirOf 1 = .ok (.istore_n 2, 1) := by decide +kernel
theorem dX0_stirOf_2 : decode cX0_stirOf 2 = .ok (.iconst 0, 1) := by decide +kernel
theorem dX0_stirOf_3 : decode cX0_stirOf 3 = .ok (.istore_n 3, 1) := by decide +kernel
theorem dX0_stirOf_4 : decode cX0_stirOf 4 = .ok (.iload_n 3, 1) := by decide +kernel
theorem dX0_stirOf_5 : decode cX0_stirOf 5 = .ok (.aload_n 0, 1) := by decide +kernel
theorem dX0_stirOf_6 : decode cX0_stirOf 6 = .ok (.getfield 34, 3) := by decide +kernel
theorem dX0_stirOf_9 : decode cX0_stirOf 9 = .ok (.if_icmp .ge 26, 3) := by decide +kernel
theorem dX0_stirOf_12 : decode cX0_stirOf 12 = .ok (.iload_n 1, 1) := by decide +kernel
theorem dX0_stirOf_13 : decode cX0_stirOf 13 = .ok (.iload_n 3, 1) := by decide +kernel
theorem dX0_stirOf_14 : decode cX0_stirOf 14 = .ok (.ishr, 1) := by decide +kernel
theorem dX0_stirOf_15 : decode cX0_stirOf 15 = .ok (.iconst 1, 1) := by decide +kernel
theorem dX0_stirOf_16 : decode cX0_stirOf 16 = .ok (.iand, 1) := by decide +kernel
theorem dX0_stirOf_17 : decode cX0_stirOf 17 = .ok (.iconst 1, 1) := by decide +kernel
theorem dX0_stirOf_18 : decode cX0_stirOf 18 = .ok (.if_icmp .ne 11, 3) := by decide +kernel
theorem dX0_stirOf_21 : decode cX0_stirOf 21 = .ok (.iload_n 2, 1) := by decide +kernel
theorem dX0_stirOf_22 : decode cX0_stirOf 22 = .ok (.aload_n 0, 1) := by decide +kernel
theorem dX0_stirOf_23 : decode cX0_stirOf 23 = .ok (.iload_n 3, 1) := by decide +kernel
theorem dX0_stirOf_24 : decode cX0_stirOf 24 = .ok (.invokevirtual 126, 3) := by decide +kernel
theorem dX0_stirOf_27 : decode cX0_stirOf 27 = .ok (.ior, 1) := by decide +kernel
theorem dX0_stirOf_28 : decode cX0_stirOf 28 = .ok (.istore_n 2, 1) := by decide +kernel
theorem dX0_stirOf_29 : decode cX0_stirOf 29 = .ok (.iinc 3 1, 3) := by decide +kernel
theorem dX0_stirOf_32 : decode cX0_stirOf 32 = .ok (.goto (-28), 3) := by decide +kernel
theorem dX0_stirOf_35 : decode cX0_stirOf 35 = .ok (.iload_n 2, 1) := by decide +kernel
theorem dX0_stirOf_36 : decode cX0_stirOf 36 = .ok (.iload_n 1, 1) := by decide +kernel
theorem dX0_stirOf_37 : decode cX0_stirOf 37 = .ok (.iconst (-1), 1) := by decide +kernel
theorem dX0_stirOf_38 : decode cX0_stirOf 38 = .ok (.ixor, 1) := by decide +kernel
theorem dX0_stirOf_39 : decode cX0_stirOf 39 = .ok (.iand, 1) := by decide +kernel
theorem dX0_stirOf_40 : decode cX0_stirOf 40 = .ok (.invokestatic 129, 3) := by decide +kernel
theorem dX0_stirOf_43 : decode cX0_stirOf 43 = .ok (.ireturn, 1) := by decide +kernel
theorem dX0_cheapestSet_0 : decode cX0_cheapestSet 0 = .ok (.iconst 0, 1) := by decide +kernel
theorem dX0_cheapestSet_1 : decode cX0_cheapestSet 1 = .ok (.istore_n 2, 1) := by decide +kernel
theorem dX0_cheapestSet_2 : decode cX0_cheapestSet 2 = .ok (.ldc 134, 2) := by decide +kernel
theorem dX0_cheapestSet_4 : decode cX0_cheapestSet 4 = .ok (.istore_n 3, 1) := by decide +kernel
theorem dX0_cheapestSet_5 : decode cX0_cheapestSet 5 = .ok (.iconst 1, 1) := by decide +kernel
theorem dX0_cheapestSet_6 : decode cX0_cheapestSet 6 = .ok (.istore 4, 2) := by decide +kernel
theorem dX0_cheapestSet_8 : decode cX0_cheapestSet 8 = .ok (.iload 4, 2) := by decide +kernel
theorem dX0_cheapestSet_10 : decode cX0_cheapestSet 10 = .ok (.aload_n 0, 1) := by decide +kernel
theorem dX0_cheapestSet_11 : decode cX0_cheapestSet 11 = .ok (.invokevirtual 135, 3) := by decide +kernel
theorem dX0_cheapestSet_14 : decode cX0_cheapestSet 14 = .ok (.if_icmp .ge 57, 3) := by decide +kernel
theorem dX0_cheapestSet_17 : decode cX0_cheapestSet 17 = .ok (.aload_n 0, 1) := by decide +kernel
theorem dX0_cheapestSet_18 : decode cX0_cheapestSet 18 = .ok (.iload 4, 2) := by decide +kernel
theorem dX0_cheapestSet_20 : decode cX0_cheapestSet 20 = .ok (.invokevirtual 139, 3) := by decide +kernel
theorem dX0_cheapestSet_23 : decode cX0_cheapestSet 23 = .ok (.iload_n 1, 1) := by decide +kernel
theorem dX0_cheapestSet_24 : decode cX0_cheapestSet 24 = .ok (.if_icmp .lt 41, 3) := by decide +kernel
theorem dX0_cheapestSet_27 : decode cX0_cheapestSet 27 = .ok (.aload_n 0, 1) := by decide +kernel
theorem dX0_cheapestSet_28 : decode cX0_cheapestSet 28 = .ok (.iload 4, 2) := by decide +kernel
theorem dX0_cheapestSet_30 : decode cX0_cheapestSet 30 = .ok (.invokevirtual 142, 3) := by decide +kernel
theorem dX0_cheapestSet_33 : decode cX0_cheapestSet 33 = .ok (.ifCond .eq 32, 3) := by decide +kernel
theorem dX0_cheapestSet_36 : decode cX0_cheapestSet 36 = .ok (.aload_n 0, 1) := by decide +kernel
theorem dX0_cheapestSet_37 : decode cX0_cheapestSet 37 = .ok (.iload 4, 2) := by decide +kernel
theorem dX0_cheapestSet_39 : decode cX0_cheapestSet 39 = .ok (.invokevirtual 145, 3) := by decide +kernel
theorem dX0_cheapestSet_42 : decode cX0_cheapestSet 42 = .ok (.bipush 8, 2) := by decide +kernel
theorem dX0_cheapestSet_44 : decode cX0_cheapestSet 44 = .ok (.imul, 1) := by decide +kernel
theorem dX0_cheapestSet_45 : decode cX0_cheapestSet 45 = .ok (.iload 4, 2) := by decide +kernel
theorem dX0_cheapestSet_47 : decode cX0_cheapestSet 47 = .ok (.invokestatic 129, 3) := by decide +kernel
theorem dX0_cheapestSet_50 : decode cX0_cheapestSet 50 = .ok (.iadd, 1) := by decide +kernel
theorem dX0_cheapestSet_51 : decode cX0_cheapestSet 51 = .ok (.istore 5, 2) := by decide +kernel
theorem dX0_cheapestSet_53 : decode cX0_cheapestSet 53 = .ok (.iload 5, 2) := by decide +kernel
theorem dX0_cheapestSet_55 : decode cX0_cheapestSet 55 = .ok (.iload_n 3, 1) := by decide +kernel
theorem dX0_cheapestSet_56 : decode cX0_cheapestSet 56 = .ok (.if_icmp .ge 9, 3) := by decide +kernel
theorem dX0_cheapestSet_59 : decode cX0_cheapestSet 59 = .ok (.iload 5, 2) := by decide +kernel
theorem dX0_cheapestSet_61 : decode cX0_cheapestSet 61 = .ok (.istore_n 3, 1) := by decide +kernel
theorem dX0_cheapestSet_62 : decode cX0_cheapestSet 62 = .ok (.iload 4, 2) := by decide +kernel
theorem dX0_cheapestSet_64 : decode cX0_cheapestSet 64 = .ok (.istore_n 2, 1) := by decide +kernel
theorem dX0_cheapestSet_65 : decode cX0_cheapestSet 65 = .ok (.iinc 4 1, 3) := by decide +kernel
theorem dX0_cheapestSet_68 : decode cX0_cheapestSet 68 = .ok (.goto (-60), 3) := by decide +kernel
theorem dX0_cheapestSet_71 : decode cX0_cheapestSet 71 = .ok (.iload_n 2, 1) := by decide +kernel
theorem dX0_cheapestSet_72 : decode cX0_cheapestSet 72 = .ok (.ireturn, 1) := by decide +kernel
theorem dX1_init_0 : decode cX1_init 0 = .ok (.aload_n 0, 1) := by decide +kernel
theorem dX1_init_1 : decode cX1_init 1 = .ok (.invokespecial 3, 3) := by decide +kernel
theorem dX1_init_4 : decode cX1_init 4 = .ok (.aload_n 0, 1) := by decide +kernel
theorem dX1_init_5 : decode cX1_init 5 = .ok (.bipush 9, 2) := by decide +kernel
theorem dX1_init_7 : decode cX1_init 7 = .ok (.newarray .int, 2) := by decide +kernel
theorem dX1_init_9 : decode cX1_init 9 = .ok (.putfield 9, 3) := by decide +kernel
theorem dX1_init_12 : decode cX1_init 12 = .ok (.return_, 1) := by decide +kernel
theorem dX1_reckon_0 : decode cX1_reckon 0 = .ok (.aload_n 0, 1) := by decide +kernel
theorem dX1_reckon_1 : decode cX1_reckon 1 = .ok (.iload_n 1, 1) := by decide +kernel
theorem dX1_reckon_2 : decode cX1_reckon 2 = .ok (.iload_n 2, 1) := by decide +kernel
theorem dX1_reckon_3 : decode cX1_reckon 3 = .ok (.invokevirtual 15, 3) := by decide +kernel
theorem dX1_reckon_6 : decode cX1_reckon 6 = .ok (.iconst 0, 1) := by decide +kernel
theorem dX1_reckon_7 : decode cX1_reckon 7 = .ok (.istore 4, 2) := by decide +kernel
theorem dX1_reckon_9 : decode cX1_reckon 9 = .ok (.iconst 0, 1) := by decide +kernel
theorem dX1_reckon_10 : decode cX1_reckon 10 = .ok (.istore 5, 2) := by decide +kernel
theorem dX1_reckon_12 : decode cX1_reckon 12 = .ok (.iconst 0, 1) := by decide +kernel
theorem dX1_reckon_13 : decode cX1_reckon 13 = .ok (.istore 6, 2) := by decide +kernel
theorem dX1_reckon_15 : decode cX1_reckon 15 = .ok (.iload 6, 2) := by decide +kernel
theorem dX1_reckon_17 : decode cX1_reckon 17 = .ok (.bipush 8, 2) := by decide +kernel
theorem dX1_reckon_19 : decode cX1_reckon 19 = .ok (.if_icmp .gt 39, 3) := by decide +kernel
theorem dX1_reckon_22 : decode cX1_reckon 22 = .ok (.iload 5, 2) := by decide +kernel
theorem dX1_reckon_24 : decode cX1_reckon 24 = .ok (.aload_n 0, 1) := by decide +kernel
theorem dX1_reckon_25 : decode cX1_reckon 25 = .ok (.getfield 9, 3) := by decide +kernel
theorem dX1_reckon_28 : decode cX1_reckon 28 = .ok (.iload 6, 2) := by decide +kernel
theorem dX1_reckon_30 : decode cX1_reckon 30 = .ok (.iaload, 1) := by decide +kernel
theorem dX1_reckon_31 : decode cX1_reckon 31 = .ok (.iadd, 1) := by decide +kernel
theorem dX1_reckon_32 : decode cX1_reckon 32 = .ok (.istore 5, 2) := by decide +kernel
theorem dX1_reckon_34 : decode cX1_reckon 34 = .ok (.iload 6, 2) := by decide +kernel
theorem dX1_reckon_36 : decode cX1_reckon 36 = .ok (.iload_n 3, 1) := by decide +kernel
theorem dX1_reckon_37 : decode cX1_reckon 37 = .ok (.if_icmp .gt 15, 3) := by decide +kernel
theorem dX1_reckon_40 : decode cX1_reckon 40 = .ok (.iload 4, 2) := by decide +kernel
theorem dX1_reckon_42 : decode cX1_reckon 42 = .ok (.aload_n 0, 1) := by decide +kernel
theorem dX1_reckon_43 : decode cX1_reckon 43 = .ok (.getfield 9, 3) := by decide +kernel
theorem dX1_reckon_46 : decode cX1_reckon 46 = .ok (.iload 6, 2) := by decide +kernel
theorem dX1_reckon_48 : decode cX1_reckon 48 = .ok (.iaload, 1) := by decide +kernel
theorem dX1_reckon_49 : decode cX1_reckon 49 = .ok (.iadd, 1) := by decide +kernel
theorem dX1_reckon_50 : decode cX1_reckon 50 = .ok (.istore 4, 2) := by decide +kernel
theorem dX1_reckon_52 : decode cX1_reckon 52 = .ok (.iinc 6 1, 3) := by decide +kernel
theorem dX1_reckon_55 : decode cX1_reckon 55 = .ok (.goto (-40), 3) := by decide +kernel
theorem dX1_reckon_58 : decode cX1_reckon 58 = .ok (.iload 5, 2) := by decide +kernel
theorem dX1_reckon_60 : decode cX1_reckon 60 = .ok (.iload 4, 2) := by decide +kernel
theorem dX1_reckon_62 : decode cX1_reckon 62 = .ok (.invokestatic 19, 3) := by decide +kernel
theorem dX1_reckon_65 : decode cX1_reckon 65 = .ok (.istore 6, 2) := by decide +kernel
theorem dX1_reckon_67 : decode cX1_reckon 67 = .ok (.aload_n 0, 1) := by decide +kernel
theorem dX1_reckon_68 : decode cX1_reckon 68 = .ok (.iload 6, 2) := by decide +kernel
theorem dX1_reckon_70 : decode cX1_reckon 70 = .ok (.ifCond .le 11, 3) := by decide +kernel
theorem dX1_reckon_73 : decode cX1_reckon 73 = .ok (.iload 4, 2) := by decide +kernel
theorem dX1_reckon_75 : decode cX1_reckon 75 = .ok (.iload 6, 2) := by decide +kernel
theorem dX1_reckon_77 : decode cX1_reckon 77 = .ok (.idiv, 1) := by decide +kernel
theorem dX1_reckon_78 : decode cX1_reckon 78 = .ok (.goto 4, 3) := by decide +kernel
theorem dX1_reckon_81 : decode cX1_reckon 81 = .ok (.iconst 0, 1) := by decide +kernel
theorem dX1_reckon_82 : decode cX1_reckon 82 = .ok (.putfield 23, 3) := by decide +kernel
theorem dX1_reckon_85 : decode cX1_reckon 85 = .ok (.aload_n 0, 1) := by decide +kernel
theorem dX1_reckon_86 : decode cX1_reckon 86 = .ok (.iload 6, 2) := by decide +kernel
theorem dX1_reckon_88 : decode cX1_reckon 88 = .ok (.ifCond .le 11, 3) := by decide +kernel
theorem dX1_reckon_91 : decode cX1_reckon 91 = .ok (.iload 5, 2) := by decide +kernel
theorem dX1_reckon_93 : decode cX1_reckon 93 = .ok (.iload 6, 2) := by decide +kernel
theorem dX1_reckon_95 : decode cX1_reckon 95 = .ok (.idiv, 1) := by decide +kernel
theorem dX1_reckon_96 : decode cX1_reckon 96 = .ok (.goto 4, 3) := by decide +kernel
theorem dX1_reckon_99 : decode cX1_reckon 99 = .ok (.iconst 1, 1) := by decide +kernel
theorem dX1_reckon_100 : decode cX1_reckon 100 = .ok (.putfield 27, 3) := by decide +kernel
theorem dX1_reckon_103 : decode cX1_reckon 103 = .ok (.return_, 1) := by decide +kernel
theorem dX1_spread_0 : decode cX1_spread 0 = .ok (.iconst 0, 1) := by decide +kernel
theorem dX1_spread_1 : decode cX1_spread 1 = .ok (.istore_n 3, 1) := by decide +kernel
theorem dX1_spread_2 : decode cX1_spread 2 = .ok (.iload_n 3, 1) := by decide +kernel
theorem dX1_spread_3 : decode cX1_spread 3 = .ok (.bipush 8, 2) := by decide +kernel
theorem dX1_spread_5 : decode cX1_spread 5 = .ok (.if_icmp .gt 24, 3) := by decide +kernel
theorem dX1_spread_8 : decode cX1_spread 8 = .ok (.aload_n 0, 1) := by decide +kernel
theorem dX1_spread_9 : decode cX1_spread 9 = .ok (.getfield 9, 3) := by decide +kernel
theorem dX1_spread_12 : decode cX1_spread 12 = .ok (.iload_n 3, 1) := by decide +kernel
theorem dX1_spread_13 : decode cX1_spread 13 = .ok (.iload_n 3, 1) := by decide +kernel
theorem dX1_spread_14 : decode cX1_spread 14 = .ok (.ifCond .ne 7, 3) := by decide +kernel
theorem dX1_spread_17 : decode cX1_spread 17 = .ok (.iconst 1, 1) := by decide +kernel
theorem dX1_spread_18 : decode cX1_spread 18 = .ok (.goto 4, 3) := by decide +kernel
theorem dX1_spread_21 : decode cX1_spread 21 = .ok (.iconst 0, 1) := by decide +kernel
theorem dX1_spread_22 : decode cX1_spread 22 = .ok (.iastore, 1) := by decide +kernel
theorem dX1_spread_23 : decode cX1_spread 23 = .ok (.iinc 3 1, 3) := by decide +kernel
theorem dX1_spread_26 : decode cX1_spread 26 = .ok (.goto (-24), 3) := by decide +kernel
theorem dX1_spread_29 : decode cX1_spread 29 = .ok (.iconst 0, 1) := by decide +kernel
theorem dX1_spread_30 : decode cX1_spread 30 = .ok (.istore_n 3, 1) := by decide +kernel
theorem dX1_spread_31 : decode cX1_spread 31 = .ok (.iload_n 3, 1) := by decide +kernel
theorem dX1_spread_32 : decode cX1_spread 32 = .ok (.iload_n 1, 1) := by decide +kernel
theorem dX1_spread_33 : decode cX1_spread 33 = .ok (.if_icmp .ge 68, 3) := by decide +kernel
theorem dX1_spread_36 : decode cX1_spread 36 = .ok (.bipush 8, 2) := by decide +kernel
theorem dX1_spread_38 : decode cX1_spread 38 = .ok (.istore 4, 2) := by decide +kernel
theorem dX1_spread_40 : decode cX1_spread 40 = .ok (.iload 4, 2) := by decide +kernel
theorem dX1_spread_42 : decode cX1_spread 42 = .ok (.ifCond .le 40, 3) := by decide +kernel
theorem dX1_spread_45 : decode cX1_spread 45 = .ok (.aload_n 0, 1) := by decide +kernel
theorem dX1_spread_46 : decode cX1_spread 46 = .ok (.getfield 9, 3) := by decide +kernel
theorem dX1_spread_49 : decode cX1_spread 49 = .ok (.iload 4, 2) := by decide +kernel
theorem dX1_spread_51 : decode cX1_spread 51 = .ok (.aload_n 0, 1) := by decide +kernel
theorem dX1_spread_52 : decode cX1_spread 52 = .ok (.getfield 9, 3) := by decide +kernel
theorem dX1_spread_55 : decode cX1_spread 55 = .ok (.iload 4, 2) := by decide +kernel
theorem dX1_spread_57 : decode cX1_spread 57 = .ok (.iaload, 1) := by decide +kernel
theorem dX1_spread_58 : decode cX1_spread 58 = .ok (.bipush 10, 2) := by decide +kernel
theorem dX1_spread_60 : decode cX1_spread 60 = .ok (.iload_n 2, 1) := by decide +kernel
theorem dX1_spread_61 : decode cX1_spread 61 = .ok (.isub, 1) := by decide +kernel
theorem dX1_spread_62 : decode cX1_spread 62 = .ok (.imul, 1) := by decide +kernel
theorem dX1_spread_63 : decode cX1_spread 63 = .ok (.aload_n 0, 1) := by decide +kernel
theorem dX1_spread_64 : decode cX1_spread 64 = .ok (.getfield 9, 3) := by decide +kernel
theorem dX1_spread_67 : decode cX1_spread 67 = .ok (.iload 4, 2) := by decide +kernel
theorem dX1_spread_69 : decode cX1_spread 69 = .ok (.iconst 1, 1) := by decide +kernel
theorem dX1_spread_70 : decode cX1_spread 70 = .ok (.isub, 1) := by decide +kernel
theorem dX1_spread_71 : decode cX1_spread 71 = .ok (.iaload, 1) := by decide +kernel
theorem dX1_spread_72 : decode cX1_spread 72 = .ok (.iload_n 2, 1) := by decide +kernel
theorem dX1_spread_73 : decode cX1_spread 73 = .ok (.imul, 1) := by decide +kernel
theorem dX1_spread_74 : decode cX1_spread 74 = .ok (.iadd, 1) := by decide +kernel
theorem dX1_spread_75 : decode cX1_spread 75 = .ok (.iastore, 1) := by decide +kernel
theorem dX1_spread_76 : decode cX1_spread 76 = .ok (.iinc 4 (-1), 3) := by decide +kernel
theorem dX1_spread_79 : decode cX1_spread 79 = .ok (.goto (-39), 3) := by decide +kernel
theorem dX1_spread_82 : decode cX1_spread 82 = .ok (.aload_n 0, 1) := by decide +kernel
theorem dX1_spread_83 : decode cX1_spread 83 = .ok (.getfield 9, 3) := by decide +kernel
theorem dX1_spread_86 : decode cX1_spread 86 = .ok (.iconst 0, 1) := by decide +kernel
theorem dX1_spread_87 : decode cX1_spread 87 = .ok (.dup2, 1) := by decide +kernel
theorem dX1_spread_88 : decode cX1_spread 88 = .ok (.iaload, 1) := by decide +kernel
theorem dX1_spread_89 : decode cX1_spread 89 = .ok (.bipush 10, 2) := by decide +kernel
theorem dX1_spread_91 : decode cX1_spread 91 = .ok (.iload_n 2, 1) := by decide +kernel
theorem dX1_spread_92 : decode cX1_spread 92 = .ok (.isub, 1) := by decide +kernel
theorem dX1_spread_93 : decode cX1_spread 93 = .ok (.imul, 1) := by decide +kernel
theorem dX1_spread_94 : decode cX1_spread 94 = .ok (.iastore, 1) := by decide +kernel
theorem dX1_spread_95 : decode cX1_spread 95 = .ok (.iinc 3 1, 3) := by decide +kernel
theorem dX1_spread_98 : decode cX1_spread 98 = .ok (.goto (-67), 3) := by decide +kernel
theorem dX1_spread_101 : decode cX1_spread 101 = .ok (.return_, 1) := by decide +kernel
theorem dX1_commonDivisor_0 : decode cX1_commonDivisor 0 = .ok (.iload_n 0, 1) := by decide +kernel
theorem dX1_commonDivisor_1 : decode cX1_commonDivisor 1 = .ok (.istore_n 2, 1) := by decide +kernel
theorem dX1_commonDivisor_2 : decode cX1_commonDivisor 2 = .ok (.iload_n 1, 1) := by decide +kernel
theorem dX1_commonDivisor_3 : decode cX1_commonDivisor 3 = .ok (.istore_n 3, 1) := by decide +kernel
theorem dX1_commonDivisor_4 : decode cX1_commonDivisor 4 = .ok (.iconst 0, 1) := by decide +kernel
theorem dX1_commonDivisor_5 : decode cX1_commonDivisor 5 = .ok (.istore 4, 2) := by decide +kernel
theorem dX1_commonDivisor_7 : decode cX1_commonDivisor 7 = .ok (.iload 4, 2) := by decide +kernel
theorem dX1_commonDivisor_9 : decode cX1_commonDivisor 9 = .ok (.bipush 50, 2) := by decide +kernel
theorem dX1_commonDivisor_11 : decode cX1_commonDivisor 11 = .ok (.if_icmp .ge 23, 3) := by decide +kernel
theorem dX1_commonDivisor_14 : decode cX1_commonDivisor 14 = .ok (.iload_n 3, 1) := by decide +kernel
theorem dX1_commonDivisor_15 : decode cX1_commonDivisor 15 = .ok (.ifCond .eq 19, 3) := by decide +kernel
theorem dX1_commonDivisor_18 : decode cX1_commonDivisor 18 = .ok (.iload_n 2, 1) := by decide +kernel
theorem dX1_commonDivisor_19 : decode cX1_commonDivisor 19 = .ok (.iload_n 3, 1) := by decide +kernel
theorem dX1_commonDivisor_20 : decode cX1_commonDivisor 20 = .ok (.irem, 1) := by decide +kernel
theorem dX1_commonDivisor_21 : decode cX1_commonDivisor 21 = .ok (.istore 5, 2) := by decide +kernel
theorem dX1_commonDivisor_23 : decode cX1_commonDivisor 23 = .ok (.iload_n 3, 1) := by decide +kernel
theorem dX1_commonDivisor_24 : decode cX1_commonDivisor 24 = .ok (.istore_n 2, 1) := by decide +kernel
theorem dX1_commonDivisor_25 : decode cX1_commonDivisor 25 = .ok (.iload 5, 2) := by decide +kernel
theorem dX1_commonDivisor_27 : decode cX1_commonDivisor 27 = .ok (.istore_n 3, 1) := by decide +kernel
theorem dX1_commonDivisor_28 : decode cX1_commonDivisor 28 = .ok (.iinc 4 1, 3) := by decide +kernel
theorem dX1_commonDivisor_31 : decode cX1_commonDivisor 31 = .ok (.goto (-24), 3) := by decide +kernel
theorem dX1_commonDivisor_34 : decode cX1_commonDivisor 34 = .ok (.iload_n 2, 1) := by decide +kernel
theorem dX1_commonDivisor_35 : decode cX1_commonDivisor 35 = .ok (.ireturn, 1) := by decide +kernel
theorem dX2_init_0 : decode cX2_init 0 = .ok (.aload_n 0, 1) := by decide +kernel
theorem dX2_init_1 : decode cX2_init 1 = .ok (.invokespecial 3, 3) := by decide +kernel
theorem dX2_init_4 : decode cX2_init 4 = .ok (.aload_n 0, 1) := by decide +kernel
theorem dX2_init_5 : decode cX2_init 5 = .ok (.iconst 5, 1) := by decide +kernel
theorem dX2_init_6 : decode cX2_init 6 = .ok (.newarray .int, 2) := by decide +kernel
theorem dX2_init_8 : decode cX2_init 8 = .ok (.putfield 9, 3) := by decide +kernel
theorem dX2_init_11 : decode cX2_init 11 = .ok (.aload_n 0, 1) := by decide +kernel
theorem dX2_init_12 : decode cX2_init 12 = .ok (.iconst 5, 1) := by decide +kernel
theorem dX2_init_13 : decode cX2_init 13 = .ok (.newarray .boolean, 2) := by decide +kernel
theorem dX2_init_15 : decode cX2_init 15 = .ok (.putfield 15, 3) := by decide +kernel
theorem dX2_init_18 : decode cX2_init 18 = .ok (.aload_n 0, 1) := by decide +kernel
theorem dX2_init_19 : decode cX2_init 19 = .ok (.bipush 8, 2) := by decide +kernel
theorem dX2_init_21 : decode cX2_init 21 = .ok (.newarray .int, 2) := by decide +kernel
theorem dX2_init_23 : decode cX2_init 23 = .ok (.putfield 19, 3) := by decide +kernel
theorem dX2_init_26 : decode cX2_init 26 = .ok (.aload_n 0, 1) := by decide +kernel
theorem dX2_init_27 : decode cX2_init 27 = .ok (.bipush 8, 2) := by decide +kernel
theorem dX2_init_29 : decode cX2_init 29 = .ok (.newarray .int, 2) := by decide +kernel
theorem dX2_init_31 : decode cX2_init 31 = .ok (.putfield 22, 3) := by decide +kernel
theorem dX2_init_34 : decode cX2_init 34 = .ok (.aload_n 0, 1) := by decide +kernel
theorem dX2_init_35 : decode cX2_init 35 = .ok (.bipush 7, 2) := by decide +kernel
theorem dX2_init_37 : decode cX2_init 37 = .ok (.newarray .int, 2) := by decide +kernel
theorem dX2_init_39 : decode cX2_init 39 = .ok (.putfield 25, 3) := by decide +kernel
theorem dX2_init_42 : decode cX2_init 42 = .ok (.aload_n 0, 1) := by decide +kernel
theorem dX2_init_43 : decode cX2_init 43 = .ok (.bipush 7, 2) := by decide +kernel
theorem dX2_init_45 : decode cX2_init 45 = .ok (.newarray .int, 2) := by decide +kernel
theorem dX2_init_47 : decode cX2_init 47 = .ok (.putfield 28, 3) := by decide +kernel
theorem dX2_init_50 : decode cX2_init 50 = .ok (.return_, 1) := by decide +kernel
theorem dX2_mostOf_0 : decode cX2_mostOf 0 = .ok (.iconst 0, 1) := by decide +kernel
theorem dX2_mostOf_1 : decode cX2_mostOf 1 = .ok (.istore_n 3, 1) := by decide +kernel
theorem dX2_mostOf_2 : decode cX2_mostOf 2 = .ok (.iload_n 3, 1) := by decide +kernel
theorem dX2_mostOf_3 : decode cX2_mostOf 3 = .ok (.iconst 5, 1) := by decide +kernel
theorem dX2_mostOf_4 : decode cX2_mostOf 4 = .ok (.if_icmp .ge 58, 3) := by decide +kernel
theorem dX2_mostOf_7 : decode cX2_mostOf 7 = .ok (.aload_n 1, 1) := by decide +kernel
theorem dX2_mostOf_8 : decode cX2_mostOf 8 = .ok (.aload_n 1, 1) := by decide +kernel
theorem dX2_mostOf_9 : decode cX2_mostOf 9 = .ok (.iload_n 3, 1) := by decide +kernel
theorem dX2_mostOf_10 : decode cX2_mostOf 10 = .ok (.invokevirtual 31, 3) := by decide +kernel
theorem dX2_mostOf_13 : decode cX2_mostOf 13 = .ok (.invokevirtual 37, 3) := by decide +kernel
theorem dX2_mostOf_16 : decode cX2_mostOf 16 = .ok (.istore 4, 2) := by decide +kernel
theorem dX2_mostOf_18 : decode cX2_mostOf 18 = .ok (.aload_n 0, 1) := by decide +kernel
theorem dX2_mostOf_19 : decode cX2_mostOf 19 = .ok (.getfield 9, 3) := by decide +kernel
theorem dX2_mostOf_22 : decode cX2_mostOf 22 = .ok (.iload_n 3, 1) := by decide +kernel
theorem dX2_mostOf_23 : decode cX2_mostOf 23 = .ok (.iload 4, 2) := by decide +kernel
theorem dX2_mostOf_25 : decode cX2_mostOf 25 = .ok (.iconst 3, 1) := by decide +kernel
theorem dX2_mostOf_26 : decode cX2_mostOf 26 = .ok (.if_icmp .ne 7, 3) := by decide +kernel
theorem dX2_mostOf_29 : decode cX2_mostOf 29 = .ok (.iconst (-1), 1) := by decide +kernel
theorem dX2_mostOf_30 : decode cX2_mostOf 30 = .ok (.goto 8, 3) := by decide +kernel
theorem dX2_mostOf_33 : decode cX2_mostOf 33 = .ok (.aload_n 1, 1) := by decide +kernel
theorem dX2_mostOf_34 : decode cX2_mostOf 34 = .ok (.iload_n 3, 1) := by decide +kernel
theorem dX2_mostOf_35 : decode cX2_mostOf 35 = .ok (.invokevirtual 40, 3) := by decide +kernel
theorem dX2_mostOf_38 : decode cX2_mostOf 38 = .ok (.iastore, 1) := by decide +kernel
theorem dX2_mostOf_39 : decode cX2_mostOf 39 = .ok (.aload_n 0, 1) := by decide +kernel
theorem dX2_mostOf_40 : decode cX2_mostOf 40 = .ok (.getfield 15, 3) := by decide +kernel
theorem dX2_mostOf_43 : decode cX2_mostOf 43 = .ok (.iload_n 3, 1) := by decide +kernel
theorem dX2_mostOf_44 : decode cX2_mostOf 44 = .ok (.iload 4, 2) := by decide +kernel
theorem dX2_mostOf_46 : decode cX2_mostOf 46 = .ok (.iconst 2, 1) := by decide +kernel
theorem dX2_mostOf_47 : decode cX2_mostOf 47 = .ok (.if_icmp .ne 7, 3) := by decide +kernel
theorem dX2_mostOf_50 : decode cX2_mostOf 50 = .ok (.iconst 1, 1) := by decide +kernel
theorem dX2_mostOf_51 : decode cX2_mostOf 51 = .ok (.goto 4, 3) := by decide +kernel
theorem dX2_mostOf_54 : decode cX2_mostOf 54 = .ok (.iconst 0, 1) := by decide +kernel
theorem dX2_mostOf_55 : decode cX2_mostOf 55 = .ok (.bastore, 1) := by decide +kernel
theorem dX2_mostOf_56 : decode cX2_mostOf 56 = .ok (.iinc 3 1, 3) := by decide +kernel
theorem dX2_mostOf_59 : decode cX2_mostOf 59 = .ok (.goto (-57), 3) := by decide +kernel
theorem dX2_mostOf_62 : decode cX2_mostOf 62 = .ok (.aload_n 0, 1) := by decide +kernel
theorem dX2_mostOf_63 : decode cX2_mostOf 63 = .ok (.aload_n 1, 1) := by decide +kernel
theorem dX2_mostOf_64 : decode cX2_mostOf 64 = .ok (.invokevirtual 43, 3) := by decide +kernel
theorem dX2_mostOf_67 : decode cX2_mostOf 67 = .ok (.aload_n 0, 1) := by decide +kernel
theorem dX2_mostOf_68 : decode cX2_mostOf 68 = .ok (.iload_n 2, 1) := by decide +kernel
theorem dX2_mostOf_69 : decode cX2_mostOf 69 = .ok (.putfield 47, 3) := by decide +kernel
theorem dX2_mostOf_72 : decode cX2_mostOf 72 = .ok (.aload_n 0, 1) := by decide +kernel
theorem dX2_mostOf_73 : decode cX2_mostOf 73 = .ok (.aload_n 1, 1) := by decide +kernel
theorem dX2_mostOf_74 : decode cX2_mostOf 74 = .ok (.iconst 0, 1) := by decide +kernel
theorem dX2_mostOf_75 : decode cX2_mostOf 75 = .ok (.iconst 0, 1) := by decide +kernel
theorem dX2_mostOf_76 : decode cX2_mostOf 76 = .ok (.invokestatic 51, 3) := by decide +kernel
theorem dX2_mostOf_79 : decode cX2_mostOf 79 = .ok (.aload_n 0, 1) := by decide +kernel
theorem dX2_mostOf_80 : decode cX2_mostOf 80 = .ok (.getfield 47, 3) := by decide +kernel
theorem dX2_mostOf_83 : decode cX2_mostOf 83 = .ok (.ireturn, 1) := by decide +kernel
theorem dX2_lookAhead_0 : decode cX2_lookAhead 0 = .ok (.iconst 0, 1) := by decide +kernel
theorem dX2_lookAhead_1 : decode cX2_lookAhead 1 = .ok (.istore_n 2, 1) := by decide +kernel
theorem dX2_lookAhead_2 : decode cX2_lookAhead 2 = .ok (.iconst 0, 1) := by decide +kernel
theorem dX2_lookAhead_3 : decode cX2_lookAhead 3 = .ok (.istore_n 3, 1) := by decide +kernel
theorem dX2_lookAhead_4 : decode cX2_lookAhead 4 = .ok (.aload_n 0, 1) := by decide +kernel
theorem dX2_lookAhead_5 : decode cX2_lookAhead 5 = .ok (.getfield 19, 3) := by decide +kernel
theorem dX2_lookAhead_8 : decode cX2_lookAhead 8 = .ok (.bipush 7, 2) := by decide +kernel
theorem dX2_lookAhead_10 : decode cX2_lookAhead 10 = .ok (.iconst 0, 1) := by decide +kernel
theorem dX2_lookAhead_11 : decode cX2_lookAhead 11 = .ok (.iastore, 1) := by decide +kernel
theorem dX2_lookAhead_12 : decode cX2_lookAhead 12 = .ok (.aload_n 0, 1) := by decide +kernel
theorem dX2_lookAhead_13 : decode cX2_lookAhead 13 = .ok (.getfield 22, 3) := by decide +kernel
theorem dX2_lookAhead_16 : decode cX2_lookAhead 16 = .ok (.bipush 7, 2) := by decide +kernel
theorem dX2_lookAhead_18 : decode cX2_lookAhead 18 = .ok (.iconst 0, 1) := by decide +kernel
theorem dX2_lookAhead_19 : decode cX2_lookAhead 19 = .ok (.iastore, 1) := by decide +kernel
theorem dX2_lookAhead_20 : decode cX2_lookAhead 20 = .ok (.bipush 6, 2) := by decide +kernel
theorem dX2_lookAhead_22 : decode cX2_lookAhead 22 = .ok (.istore 4, 2) := by decide +kernel
theorem dX2_lookAhead_24 : decode cX2_lookAhead 24 = .ok (.iload 4, 2) := by decide +kernel
theorem dX2_lookAhead_26 : decode cX2_lookAhead 26 = .ok (.ifCond .lt 114, 3) := by decide +kernel
theorem dX2_lookAhead_29 : decode cX2_lookAhead 29 = .ok (.aload_n 1, 1) := by decide +kernel
theorem dX2_lookAhead_30 : decode cX2_lookAhead 30 = .ok (.iload 4, 2) := by decide +kernel
theorem dX2_lookAhead_32 : decode cX2_lookAhead 32 = .ok (.invokevirtual 55, 3) := by decide +kernel
theorem dX2_lookAhead_35 : decode cX2_lookAhead 35 = .ok (.ifCond .eq 16, 3) := by decide +kernel
theorem dX2_lookAhead_38 : decode cX2_lookAhead 38 = .ok (.aload_n 1, 1) := by decide +kernel
theorem dX2_lookAhead_39 : decode cX2_lookAhead 39 = .ok (.iload 4, 2) := by decide +kernel
theorem dX2_lookAhead_41 : decode cX2_lookAhead 41 = .ok (.invokevirtual 59, 3) := by decide +kernel
theorem dX2_lookAhead_44 : decode cX2_lookAhead 44 = .ok (.ifCond .ne 7, 3) := by decide +kernel
theorem dX2_lookAhead_47 : decode cX2_lookAhead 47 = .ok (.iconst 1, 1) := by decide +kernel
theorem dX2_lookAhead_48 : decode cX2_lookAhead 48 = .ok (.goto 4, 3) := by decide +kernel
theorem dX2_lookAhead_51 : decode cX2_lookAhead 51 = .ok (.iconst 0, 1) := by decide +kernel
theorem dX2_lookAhead_52 : decode cX2_lookAhead 52 = .ok (.istore 5, 2) := by decide +kernel
theorem dX2_lookAhead_54 : decode cX2_lookAhead 54 = .ok (.iload 5, 2) := by decide +kernel
theorem dX2_lookAhead_56 : decode cX2_lookAhead 56 = .ok (.ifCond .eq 18, 3) := by decide +kernel
theorem dX2_lookAhead_59 : decode cX2_lookAhead 59 = .ok (.aload_n 1, 1) := by decide +kernel
theorem dX2_lookAhead_60 : decode cX2_lookAhead 60 = .ok (.iload 4, 2) := by decide +kernel
theorem dX2_lookAhead_62 : decode cX2_lookAhead 62 = .ok (.invokevirtual 37, 3) := by decide +kernel
theorem dX2_lookAhead_65 : decode cX2_lookAhead 65 = .ok (.iconst 3, 1) := by decide +kernel
theorem dX2_lookAhead_66 : decode cX2_lookAhead 66 = .ok (.if_icmp .ne 8, 3) := by decide +kernel
theorem dX2_lookAhead_69 : decode cX2_lookAhead 69 = .ok (.iconst 1, 1) := by decide +kernel
theorem dX2_lookAhead_70 : decode cX2_lookAhead 70 = .ok (.istore_n 3, 1) := by decide +kernel
theorem dX2_lookAhead_71 : decode cX2_lookAhead 71 = .ok (.goto 21, 3) := by decide +kernel
theorem dX2_lookAhead_74 : decode cX2_lookAhead 74 = .ok (.iload 5, 2) := by decide +kernel
theorem dX2_lookAhead_76 : decode cX2_lookAhead 76 = .ok (.ifCond .eq 16, 3) := by decide +kernel
theorem dX2_lookAhead_79 : decode cX2_lookAhead 79 = .ok (.iload_n 2, 1) := by decide +kernel
theorem dX2_lookAhead_80 : decode cX2_lookAhead 80 = .ok (.iconst (-1), 1) := by decide +kernel
theorem dX2_lookAhead_81 : decode cX2_lookAhead 81 = .ok (.aload_n 1, 1) := by decide +kernel
theorem dX2_lookAhead_82 : decode cX2_lookAhead 82 = .ok (.iload 4, 2) := by decide +kernel
theorem dX2_lookAhead_84 : decode cX2_lookAhead 84 = .ok (.invokevirtual 37, 3) := by decide +kernel
theorem dX2_lookAhead_87 : decode cX2_lookAhead 87 = .ok (.invokestatic 62, 3) := by decide +kernel
theorem dX2_lookAhead_90 : decode cX2_lookAhead 90 = .ok (.iadd, 1) := by decide +kernel
theorem dX2_lookAhead_91 : decode cX2_lookAhead 91 = .ok (.istore_n 2, 1) := by decide +kernel
theorem dX2_lookAhead_92 : decode cX2_lookAhead 92 = .ok (.aload_n 0, 1) := by decide +kernel
theorem dX2_lookAhead_93 : decode cX2_lookAhead 93 = .ok (.getfield 19, 3) := by decide +kernel
theorem dX2_lookAhead_96 : decode cX2_lookAhead 96 = .ok (.iload 4, 2) := by decide +kernel
theorem dX2_lookAhead_98 : decode cX2_lookAhead 98 = .ok (.aload_n 0, 1) := by decide +kernel
theorem dX2_lookAhead_99 : decode cX2_lookAhead 99 = .ok (.getfield 19, 3) := by decide +kernel
theorem dX2_lookAhead_102 : decode cX2_lookAhead 102 = .ok (.iload 4, 2) := by decide +kernel
theorem dX2_lookAhead_104 : decode cX2_lookAhead 104 = .ok (.iconst 1, 1) := by decide +kernel
theorem dX2_lookAhead_105 : decode cX2_lookAhead 105 = .ok (.iadd, 1) := by decide +kernel
theorem dX2_lookAhead_106 : decode cX2_lookAhead 106 = .ok (.iaload, 1) := by decide +kernel
theorem dX2_lookAhead_107 : decode cX2_lookAhead 107 = .ok (.iload 5, 2) := by decide +kernel
theorem dX2_lookAhead_109 : decode cX2_lookAhead 109 = .ok (.ifCond .eq 12, 3) := by decide +kernel
theorem dX2_lookAhead_112 : decode cX2_lookAhead 112 = .ok (.aload_n 1, 1) := by decide +kernel
theorem dX2_lookAhead_113 : decode cX2_lookAhead 113 = .ok (.iload 4, 2) := by decide +kernel
theorem dX2_lookAhead_115 : decode cX2_lookAhead 115 = .ok (.invokevirtual 66, 3) := by decide +kernel
theorem dX2_lookAhead_118 : decode cX2_lookAhead 118 = .ok (.goto 4, 3) := by decide +kernel
theorem dX2_lookAhead_121 : decode cX2_lookAhead 121 = .ok (.iconst 0, 1) := by decide +kernel
theorem dX2_lookAhead_122 : decode cX2_lookAhead 122 = .ok (.iadd, 1) := by decide +kernel
theorem dX2_lookAhead_123 : decode cX2_lookAhead 123 = .ok (.iastore, 1) := by decide +kernel
theorem dX2_lookAhead_124 : decode cX2_lookAhead 124 = .ok (.aload_n 0, 1) := by decide +kernel
theorem dX2_lookAhead_125 : decode cX2_lookAhead 125 = .ok (.getfield 22, 3) := by decide +kernel
theorem dX2_lookAhead_128 : decode cX2_lookAhead 128 = .ok (.iload 4, 2) := by decide +kernel
theorem dX2_lookAhead_130 : decode cX2_lookAhead 130 = .ok (.iload_n 2, 1) := by decide +kernel
theorem dX2_lookAhead_131 : decode cX2_lookAhead 131 = .ok (.iload_n 3, 1) := by decide +kernel
theorem dX2_lookAhead_132 : decode cX2_lookAhead 132 = .ok (.iadd, 1) := by decide +kernel
theorem dX2_lookAhead_133 : decode cX2_lookAhead 133 = .ok (.iastore, 1) := by decide +kernel
theorem dX2_lookAhead_134 : decode cX2_lookAhead 134 = .ok (.iinc 4 (-1), 3) := by decide +kernel
theorem dX2_lookAhead_137 : decode cX2_lookAhead 137 = .ok (.goto (-113), 3) := by decide +kernel
theorem dX2_lookAhead_140 : decode cX2_lookAhead 140 = .ok (.return_, 1) := by decide +kernel
theorem dX2_placeOf_0 : decode cX2_placeOf 0 = .ok (.iload_n 1, 1) := by decide +kernel
theorem dX2_placeOf_1 : decode cX2_placeOf 1 = .ok (.ifCond .lt 18, 3) := by decide +kernel
theorem dX2_placeOf_4 : decode cX2_placeOf 4 = .ok (.iload_n 1, 1) := by decide +kernel
theorem dX2_placeOf_5 : decode cX2_placeOf 5 = .ok (.bipush 7, 2) := by decide +kernel
theorem dX2_placeOf_7 : decode cX2_placeOf 7 = .ok (.if_icmp .ge 12, 3) := by decide +kernel
theorem dX2_placeOf_10 : decode cX2_placeOf 10 = .ok (.aload_n 0, 1) := by decide +kernel
theorem dX2_placeOf_11 : decode cX2_placeOf 11 = .ok (.getfield 28, 3) := by decide +kernel
theorem dX2_placeOf_14 : decode cX2_placeOf 14 = .ok (.iload_n 1, 1) := by decide +kernel
theorem dX2_placeOf_15 : decode cX2_placeOf 15 = .ok (.iaload, 1) := by decide +kernel
theorem dX2_placeOf_16 : decode cX2_placeOf 16 = .ok (.goto 5, 3) := by decide +kernel
theorem dX2_placeOf_19 : decode cX2_placeOf 19 = .ok (.bipush (-4), 2) := by decide +kernel
theorem dX2_placeOf_21 : decode cX2_placeOf 21 = .ok (.ireturn, 1) := by decide +kernel
end
section
theorem dX2_tryFrom_0 : decode cX2_tryFrom 0 = .ok (.iload_n 2, 1) := by decide +kernel
theorem dX2_tryFrom_1 : decode cX2_tryFrom 1 = .ok (.ifCond .lt 24, 3) := by decide +kernel
theorem dX2_tryFrom_4 : decode cX2_tryFrom 4 = .ok (.iload_n 2, 1) := by decide +kernel
theorem dX2_tryFrom_5 : decode cX2_tryFrom 5 = .ok (.bipush 7, 2) := by decide +kernel
theorem dX2_tryFrom_7 : decode cX2_tryFrom 7 = .ok (.if_icmp .gt 18, 3) := by decide +kernel
theorem dX2_tryFrom_10 : decode cX2_tryFrom 10 = .ok (.iload_n 3, 1) := by decide +kernel
theorem dX2_tryFrom_11 : decode cX2_tryFrom 11 = .ok (.aload_n 0, 1) := by decide +kernel
theorem dX2_tryFrom_12 : decode cX2_tryFrom 12 = .ok (.getfield 19, 3) := by decide +kernel
theorem dX2_tryFrom_15 : decode cX2_tryFrom 15 = .ok (.iload_n 2, 1) := by decide +kernel
theorem dX2_tryFrom_16 : decode cX2_tryFrom 16 = .ok (.iaload, 1) := by decide +kernel
theorem dX2_tryFrom_17 : decode cX2_tryFrom 17 = .ok (.iadd, 1) := by decide +kernel
theorem dX2_tryFrom_18 : decode cX2_tryFrom 18 = .ok (.aload_n 0, 1) := by decide +kernel
theorem dX2_tryFrom_19 : decode cX2_tryFrom 19 = .ok (.getfield 47, 3) := by decide +kernel
theorem dX2_tryFrom_22 : decode cX2_tryFrom 22 = .ok (.if_icmp .gt 4, 3) := by decide +kernel
theorem dX2_tryFrom_25 : decode cX2_tryFrom 25 = .ok (.return_, 1) := by decide +kernel
theorem dX2_tryFrom_26 : decode cX2_tryFrom 26 = .ok (.iload_n 2, 1) := by decide +kernel
theorem dX2_tryFrom_27 : decode cX2_tryFrom 27 = .ok (.aload_n 1, 1) := by decide +kernel
theorem dX2_tryFrom_28 : decode cX2_tryFrom 28 = .ok (.getfield 69, 3) := by decide +kernel
theorem dX2_tryFrom_31 : decode cX2_tryFrom 31 = .ok (.if_icmp .ge 9, 3) := by decide +kernel
theorem dX2_tryFrom_34 : decode cX2_tryFrom 34 = .ok (.iload_n 2, 1) := by decide +kernel
theorem dX2_tryFrom_35 : decode cX2_tryFrom 35 = .ok (.bipush 7, 2) := by decide +kernel
theorem dX2_tryFrom_37 : decode cX2_tryFrom 37 = .ok (.if_icmp .ne 9, 3) := by decide +kernel
theorem dX2_tryFrom_40 : decode cX2_tryFrom 40 = .ok (.aload_n 0, 1) := by decide +kernel
theorem dX2_tryFrom_41 : decode cX2_tryFrom 41 = .ok (.iload_n 3, 1) := by decide +kernel
theorem dX2_tryFrom_42 : decode cX2_tryFrom 42 = .ok (.invokevirtual 72, 3) := by decide +kernel
theorem dX2_tryFrom_45 : decode cX2_tryFrom 45 = .ok (.return_, 1) := by decide +kernel
theorem dX2_tryFrom_46 : decode cX2_tryFrom 46 = .ok (.aload_n 1, 1) := by decide +kernel
theorem dX2_tryFrom_47 : decode cX2_tryFrom 47 = .ok (.iload_n 2, 1) := by decide +kernel
theorem dX2_tryFrom_48 : decode cX2_tryFrom 48 = .ok (.invokevirtual 59, 3) := by decide +kernel
theorem dX2_tryFrom_51 : decode cX2_tryFrom 51 = .ok (.ifCond .eq 24, 3) := by decide +kernel
theorem dX2_tryFrom_54 : decode cX2_tryFrom 54 = .ok (.aload_n 0, 1) := by decide +kernel
theorem dX2_tryFrom_55 : decode cX2_tryFrom 55 = .ok (.getfield 25, 3) := by decide +kernel
theorem dX2_tryFrom_58 : decode cX2_tryFrom 58 = .ok (.iload_n 2, 1) := by decide +kernel
theorem dX2_tryFrom_59 : decode cX2_tryFrom 59 = .ok (.aload_n 1, 1) := by decide +kernel
theorem dX2_tryFrom_60 : decode cX2_tryFrom 60 = .ok (.iload_n 2, 1) := by decide +kernel
theorem dX2_tryFrom_61 : decode cX2_tryFrom 61 = .ok (.invokevirtual 76, 3) := by decide +kernel
theorem dX2_tryFrom_64 : decode cX2_tryFrom 64 = .ok (.iastore, 1) := by decide +kernel
theorem dX2_tryFrom_65 : decode cX2_tryFrom 65 = .ok (.aload_n 0, 1) := by decide +kernel
theorem dX2_tryFrom_66 : decode cX2_tryFrom 66 = .ok (.aload_n 1, 1) := by decide +kernel
theorem dX2_tryFrom_67 : decode cX2_tryFrom 67 = .ok (.iload_n 2, 1) := by decide +kernel
theorem dX2_tryFrom_68 : decode cX2_tryFrom 68 = .ok (.iconst 1, 1) := by decide +kernel
theorem dX2_tryFrom_69 : decode cX2_tryFrom 69 = .ok (.iadd, 1) := by decide +kernel
theorem dX2_tryFrom_70 : decode cX2_tryFrom 70 = .ok (.iload_n 3, 1) := by decide +kernel
theorem dX2_tryFrom_71 : decode cX2_tryFrom 71 = .ok (.invokestatic 51, 3) := by decide +kernel
theorem dX2_tryFrom_74 : decode cX2_tryFrom 74 = .ok (.return_, 1) := by decide +kernel
theorem dX2_tryFrom_75 : decode cX2_tryFrom 75 = .ok (.iconst 0, 1) := by decide +kernel
theorem dX2_tryFrom_76 : decode cX2_tryFrom 76 = .ok (.istore 4, 2) := by decide +kernel
theorem dX2_tryFrom_78 : decode cX2_tryFrom 78 = .ok (.iload 4, 2) := by decide +kernel
theorem dX2_tryFrom_80 : decode cX2_tryFrom 80 = .ok (.aload_n 1, 1) := by decide +kernel
theorem dX2_tryFrom_81 : decode cX2_tryFrom 81 = .ok (.getfield 79, 3) := by decide +kernel
theorem dX2_tryFrom_84 : decode cX2_tryFrom 84 = .ok (.if_icmp .ge 24, 3) := by decide +kernel
theorem dX2_tryFrom_87 : decode cX2_tryFrom 87 = .ok (.iload 4, 2) := by decide +kernel
theorem dX2_tryFrom_89 : decode cX2_tryFrom 89 = .ok (.iconst 5, 1) := by decide +kernel
theorem dX2_tryFrom_90 : decode cX2_tryFrom 90 = .ok (.if_icmp .ge 18, 3) := by decide +kernel
theorem dX2_tryFrom_93 : decode cX2_tryFrom 93 = .ok (.aload_n 0, 1) := by decide +kernel
theorem dX2_tryFrom_94 : decode cX2_tryFrom 94 = .ok (.aload_n 1, 1) := by decide +kernel
theorem dX2_tryFrom_95 : decode cX2_tryFrom 95 = .ok (.iload_n 2, 1) := by decide +kernel
theorem dX2_tryFrom_96 : decode cX2_tryFrom 96 = .ok (.iload 4, 2) := by decide +kernel
theorem dX2_tryFrom_98 : decode cX2_tryFrom 98 = .ok (.iload_n 3, 1) := by decide +kernel
theorem dX2_tryFrom_99 : decode cX2_tryFrom 99 = .ok (.invokestatic 82, 3) := by decide +kernel
theorem dX2_tryFrom_102 : decode cX2_tryFrom 102 = .ok (.iinc 4 1, 3) := by decide +kernel
theorem dX2_tryFrom_105 : decode cX2_tryFrom 105 = .ok (.goto (-27), 3) := by decide +kernel
theorem dX2_tryFrom_108 : decode cX2_tryFrom 108 = .ok (.aload_n 0, 1) := by decide +kernel
theorem dX2_tryFrom_109 : decode cX2_tryFrom 109 = .ok (.getfield 25, 3) := by decide +kernel
theorem dX2_tryFrom_112 : decode cX2_tryFrom 112 = .ok (.iload_n 2, 1) := by decide +kernel
theorem dX2_tryFrom_113 : decode cX2_tryFrom 113 = .ok (.bipush (-4), 2) := by decide +kernel
theorem dX2_tryFrom_115 : decode cX2_tryFrom 115 = .ok (.iastore, 1) := by decide +kernel
theorem dX2_tryFrom_116 : decode cX2_tryFrom 116 = .ok (.aload_n 0, 1) := by decide +kernel
theorem dX2_tryFrom_117 : decode cX2_tryFrom 117 = .ok (.aload_n 1, 1) := by decide +kernel
theorem dX2_tryFrom_118 : decode cX2_tryFrom 118 = .ok (.iload_n 2, 1) := by decide +kernel
theorem dX2_tryFrom_119 : decode cX2_tryFrom 119 = .ok (.iconst 1, 1) := by decide +kernel
theorem dX2_tryFrom_120 : decode cX2_tryFrom 120 = .ok (.iadd, 1) := by decide +kernel
theorem dX2_tryFrom_121 : decode cX2_tryFrom 121 = .ok (.iload_n 3, 1) := by decide +kernel
theorem dX2_tryFrom_122 : decode cX2_tryFrom 122 = .ok (.invokestatic 51, 3) := by decide +kernel
theorem dX2_tryFrom_125 : decode cX2_tryFrom 125 = .ok (.return_, 1) := by decide +kernel
theorem dX2_tryIn_0 : decode cX2_tryIn 0 = .ok (.iload_n 3, 1) := by decide +kernel
theorem dX2_tryIn_1 : decode cX2_tryIn 1 = .ok (.ifCond .lt 18, 3) := by decide +kernel
theorem dX2_tryIn_4 : decode cX2_tryIn 4 = .ok (.iload_n 3, 1) := by decide +kernel
theorem dX2_tryIn_5 : decode cX2_tryIn 5 = .ok (.iconst 5, 1) := by decide +kernel
theorem dX2_tryIn_6 : decode cX2_tryIn 6 = .ok (.if_icmp .ge 13, 3) := by decide +kernel
theorem dX2_tryIn_9 : decode cX2_tryIn 9 = .ok (.iload_n 2, 1) := by decide +kernel
theorem dX2_tryIn_10 : decode cX2_tryIn 10 = .ok (.ifCond .lt 9, 3) := by decide +kernel
theorem dX2_tryIn_13 : decode cX2_tryIn 13 = .ok (.iload_n 2, 1) := by decide +kernel
theorem dX2_tryIn_14 : decode cX2_tryIn 14 = .ok (.bipush 7, 2) := by decide +kernel
theorem dX2_tryIn_16 : decode cX2_tryIn 16 = .ok (.if_icmp .lt 4, 3) := by decide +kernel
theorem dX2_tryIn_19 : decode cX2_tryIn 19 = .ok (.return_, 1) := by decide +kernel
theorem dX2_tryIn_20 : decode cX2_tryIn 20 = .ok (.aload_n 1, 1) := by decide +kernel
theorem dX2_tryIn_21 : decode cX2_tryIn 21 = .ok (.iload_n 2, 1) := by decide +kernel
theorem dX2_tryIn_22 : decode cX2_tryIn 22 = .ok (.invokevirtual 37, 3) := by decide +kernel
theorem dX2_tryIn_25 : decode cX2_tryIn 25 = .ok (.istore 5, 2) := by decide +kernel
theorem dX2_tryIn_27 : decode cX2_tryIn 27 = .ok (.aload_n 0, 1) := by decide +kernel
theorem dX2_tryIn_28 : decode cX2_tryIn 28 = .ok (.getfield 9, 3) := by decide +kernel
theorem dX2_tryIn_31 : decode cX2_tryIn 31 = .ok (.iload_n 3, 1) := by decide +kernel
theorem dX2_tryIn_32 : decode cX2_tryIn 32 = .ok (.iaload, 1) := by decide +kernel
theorem dX2_tryIn_33 : decode cX2_tryIn 33 = .ok (.istore 6, 2) := by decide +kernel
theorem dX2_tryIn_35 : decode cX2_tryIn 35 = .ok (.aload_n 0, 1) := by decide +kernel
theorem dX2_tryIn_36 : decode cX2_tryIn 36 = .ok (.getfield 15, 3) := by decide +kernel
theorem dX2_tryIn_39 : decode cX2_tryIn 39 = .ok (.iload_n 3, 1) := by decide +kernel
theorem dX2_tryIn_40 : decode cX2_tryIn 40 = .ok (.baload, 1) := by decide +kernel
theorem dX2_tryIn_41 : decode cX2_tryIn 41 = .ok (.istore 7, 2) := by decide +kernel
theorem dX2_tryIn_43 : decode cX2_tryIn 43 = .ok (.iload 7, 2) := by decide +kernel
theorem dX2_tryIn_45 : decode cX2_tryIn 45 = .ok (.ifCond .eq 7, 3) := by decide +kernel
theorem dX2_tryIn_48 : decode cX2_tryIn 48 = .ok (.iconst 2, 1) := by decide +kernel
theorem dX2_tryIn_49 : decode cX2_tryIn 49 = .ok (.goto 4, 3) := by decide +kernel
theorem dX2_tryIn_52 : decode cX2_tryIn 52 = .ok (.iconst 0, 1) := by decide +kernel
theorem dX2_tryIn_53 : decode cX2_tryIn 53 = .ok (.iload 5, 2) := by decide +kernel
theorem dX2_tryIn_55 : decode cX2_tryIn 55 = .ok (.invokestatic 62, 3) := by decide +kernel
theorem dX2_tryIn_58 : decode cX2_tryIn 58 = .ok (.istore 8, 2) := by decide +kernel
theorem dX2_tryIn_60 : decode cX2_tryIn 60 = .ok (.iload 8, 2) := by decide +kernel
theorem dX2_tryIn_62 : decode cX2_tryIn 62 = .ok (.iload 6, 2) := by decide +kernel
theorem dX2_tryIn_64 : decode cX2_tryIn 64 = .ok (.if_icmp .gt 17, 3) := by decide +kernel
theorem dX2_tryIn_67 : decode cX2_tryIn 67 = .ok (.aload_n 0, 1) := by decide +kernel
theorem dX2_tryIn_68 : decode cX2_tryIn 68 = .ok (.iload_n 3, 1) := by decide +kernel
theorem dX2_tryIn_69 : decode cX2_tryIn 69 = .ok (.aload_n 0, 1) := by decide +kernel
theorem dX2_tryIn_70 : decode cX2_tryIn 70 = .ok (.getfield 22, 3) := by decide +kernel
theorem dX2_tryIn_73 : decode cX2_tryIn 73 = .ok (.iload_n 2, 1) := by decide +kernel
theorem dX2_tryIn_74 : decode cX2_tryIn 74 = .ok (.iaload, 1) := by decide +kernel
theorem dX2_tryIn_75 : decode cX2_tryIn 75 = .ok (.invokevirtual 86, 3) := by decide +kernel
theorem dX2_tryIn_78 : decode cX2_tryIn 78 = .ok (.ifCond .eq 4, 3) := by decide +kernel
theorem dX2_tryIn_81 : decode cX2_tryIn 81 = .ok (.return_, 1) := by decide +kernel
theorem dX2_tryIn_82 : decode cX2_tryIn 82 = .ok (.aload_n 0, 1) := by decide +kernel
theorem dX2_tryIn_83 : decode cX2_tryIn 83 = .ok (.getfield 9, 3) := by decide +kernel
theorem dX2_tryIn_86 : decode cX2_tryIn 86 = .ok (.iload_n 3, 1) := by decide +kernel
theorem dX2_tryIn_87 : decode cX2_tryIn 87 = .ok (.iload 5, 2) := by decide +kernel
theorem dX2_tryIn_89 : decode cX2_tryIn 89 = .ok (.iconst 3, 1) := by decide +kernel
theorem dX2_tryIn_90 : decode cX2_tryIn 90 = .ok (.if_icmp .ne 7, 3) := by decide +kernel
theorem dX2_tryIn_93 : decode cX2_tryIn 93 = .ok (.iconst (-1), 1) := by decide +kernel
theorem dX2_tryIn_94 : decode cX2_tryIn 94 = .ok (.goto 8, 3) := by decide +kernel
theorem dX2_tryIn_97 : decode cX2_tryIn 97 = .ok (.iload 6, 2) := by decide +kernel
theorem dX2_tryIn_99 : decode cX2_tryIn 99 = .ok (.iload 8, 2) := by decide +kernel
theorem dX2_tryIn_101 : decode cX2_tryIn 101 = .ok (.isub, 1) := by decide +kernel
theorem dX2_tryIn_102 : decode cX2_tryIn 102 = .ok (.iastore, 1) := by decide +kernel
theorem dX2_tryIn_103 : decode cX2_tryIn 103 = .ok (.aload_n 0, 1) := by decide +kernel
theorem dX2_tryIn_104 : decode cX2_tryIn 104 = .ok (.getfield 15, 3) := by decide +kernel
theorem dX2_tryIn_107 : decode cX2_tryIn 107 = .ok (.iload_n 3, 1) := by decide +kernel
theorem dX2_tryIn_108 : decode cX2_tryIn 108 = .ok (.iload 5, 2) := by decide +kernel
theorem dX2_tryIn_110 : decode cX2_tryIn 110 = .ok (.iconst 2, 1) := by decide +kernel
theorem dX2_tryIn_111 : decode cX2_tryIn 111 = .ok (.if_icmp .ne 7, 3) := by decide +kernel
theorem dX2_tryIn_114 : decode cX2_tryIn 114 = .ok (.iconst 1, 1) := by decide +kernel
theorem dX2_tryIn_115 : decode cX2_tryIn 115 = .ok (.goto 4, 3) := by decide +kernel
theorem dX2_tryIn_118 : decode cX2_tryIn 118 = .ok (.iconst 0, 1) := by decide +kernel
theorem dX2_tryIn_119 : decode cX2_tryIn 119 = .ok (.bastore, 1) := by decide +kernel
theorem dX2_tryIn_120 : decode cX2_tryIn 120 = .ok (.aload_n 0, 1) := by decide +kernel
theorem dX2_tryIn_121 : decode cX2_tryIn 121 = .ok (.getfield 25, 3) := by decide +kernel
theorem dX2_tryIn_124 : decode cX2_tryIn 124 = .ok (.iload_n 2, 1) := by decide +kernel
theorem dX2_tryIn_125 : decode cX2_tryIn 125 = .ok (.iload_n 3, 1) := by decide +kernel
theorem dX2_tryIn_126 : decode cX2_tryIn 126 = .ok (.iastore, 1) := by decide +kernel
theorem dX2_tryIn_127 : decode cX2_tryIn 127 = .ok (.aload_n 0, 1) := by decide +kernel
theorem dX2_tryIn_128 : decode cX2_tryIn 128 = .ok (.aload_n 1, 1) := by decide +kernel
theorem dX2_tryIn_129 : decode cX2_tryIn 129 = .ok (.iload_n 2, 1) := by decide +kernel
theorem dX2_tryIn_130 : decode cX2_tryIn 130 = .ok (.iconst 1, 1) := by decide +kernel
theorem dX2_tryIn_131 : decode cX2_tryIn 131 = .ok (.iadd, 1) := by decide +kernel
theorem dX2_tryIn_132 : decode cX2_tryIn 132 = .ok (.iload 4, 2) := by decide +kernel
theorem dX2_tryIn_134 : decode cX2_tryIn 134 = .ok (.aload_n 1, 1) := by decide +kernel
theorem dX2_tryIn_135 : decode cX2_tryIn 135 = .ok (.iload_n 2, 1) := by decide +kernel
theorem dX2_tryIn_136 : decode cX2_tryIn 136 = .ok (.invokevirtual 66, 3) := by decide +kernel
theorem dX2_tryIn_139 : decode cX2_tryIn 139 = .ok (.iadd, 1) := by decide +kernel
theorem dX2_tryIn_140 : decode cX2_tryIn 140 = .ok (.invokestatic 51, 3) := by decide +kernel
theorem dX2_tryIn_143 : decode cX2_tryIn 143 = .ok (.aload_n 0, 1) := by decide +kernel
theorem dX2_tryIn_144 : decode cX2_tryIn 144 = .ok (.getfield 9, 3) := by decide +kernel
theorem dX2_tryIn_147 : decode cX2_tryIn 147 = .ok (.iload_n 3, 1) := by decide +kernel
theorem dX2_tryIn_148 : decode cX2_tryIn 148 = .ok (.iload 6, 2) := by decide +kernel
theorem dX2_tryIn_150 : decode cX2_tryIn 150 = .ok (.iastore, 1) := by decide +kernel
theorem dX2_tryIn_151 : decode cX2_tryIn 151 = .ok (.aload_n 0, 1) := by decide +kernel
theorem dX2_tryIn_152 : decode cX2_tryIn 152 = .ok (.getfield 15, 3) := by decide +kernel
theorem dX2_tryIn_155 : decode cX2_tryIn 155 = .ok (.iload_n 3, 1) := by decide +kernel
theorem dX2_tryIn_156 : decode cX2_tryIn 156 = .ok (.iload 7, 2) := by decide +kernel
theorem dX2_tryIn_158 : decode cX2_tryIn 158 = .ok (.bastore, 1) := by decide +kernel
theorem dX2_tryIn_159 : decode cX2_tryIn 159 = .ok (.return_, 1) := by decide +kernel
theorem dX2_hasTwinAhead_0 : decode cX2_hasTwinAhead 0 = .ok (.iconst 0, 1) := by decide +kernel
theorem dX2_hasTwinAhead_1 : decode cX2_hasTwinAhead 1 = .ok (.istore_n 3, 1) := by decide +kernel
theorem dX2_hasTwinAhead_2 : decode cX2_hasTwinAhead 2 = .ok (.iload_n 3, 1) := by decide +kernel
theorem dX2_hasTwinAhead_3 : decode cX2_hasTwinAhead 3 = .ok (.iload_n 1, 1) := by decide +kernel
theorem dX2_hasTwinAhead_4 : decode cX2_hasTwinAhead 4 = .ok (.if_icmp .ge 78, 3) := by decide +kernel
theorem dX2_hasTwinAhead_7 : decode cX2_hasTwinAhead 7 = .ok (.iload_n 3, 1) := by decide +kernel
theorem dX2_hasTwinAhead_8 : decode cX2_hasTwinAhead 8 = .ok (.iconst 5, 1) := by decide +kernel
theorem dX2_hasTwinAhead_9 : decode cX2_hasTwinAhead 9 = .ok (.if_icmp .ge 73, 3) := by decide +kernel
theorem dX2_hasTwinAhead_12 : decode cX2_hasTwinAhead 12 = .ok (.aload_n 0, 1) := by decide +kernel
theorem dX2_hasTwinAhead_13 : decode cX2_hasTwinAhead 13 = .ok (.getfield 9, 3) := by decide +kernel
theorem dX2_hasTwinAhead_16 : decode cX2_hasTwinAhead 16 = .ok (.iload_n 3, 1) := by decide +kernel
theorem dX2_hasTwinAhead_17 : decode cX2_hasTwinAhead 17 = .ok (.iaload, 1) := by decide +kernel
theorem dX2_hasTwinAhead_18 : decode cX2_hasTwinAhead 18 = .ok (.iload_n 2, 1) := by decide +kernel
theorem dX2_hasTwinAhead_19 : decode cX2_hasTwinAhead 19 = .ok (.if_icmp .lt 17, 3) := by decide +kernel
theorem dX2_hasTwinAhead_22 : decode cX2_hasTwinAhead 22 = .ok (.aload_n 0, 1) := by decide +kernel
theorem dX2_hasTwinAhead_23 : decode cX2_hasTwinAhead 23 = .ok (.getfield 9, 3) := by decide +kernel
theorem dX2_hasTwinAhead_26 : decode cX2_hasTwinAhead 26 = .ok (.iload_n 1, 1) := by decide +kernel
theorem dX2_hasTwinAhead_27 : decode cX2_hasTwinAhead 27 = .ok (.iaload, 1) := by decide +kernel
theorem dX2_hasTwinAhead_28 : decode cX2_hasTwinAhead 28 = .ok (.iload_n 2, 1) := by decide +kernel
theorem dX2_hasTwinAhead_29 : decode cX2_hasTwinAhead 29 = .ok (.if_icmp .lt 7, 3) := by decide +kernel
theorem dX2_hasTwinAhead_32 : decode cX2_hasTwinAhead 32 = .ok (.iconst 1, 1) := by decide +kernel
theorem dX2_hasTwinAhead_33 : decode cX2_hasTwinAhead 33 = .ok (.goto 4, 3) := by decide +kernel
theorem dX2_hasTwinAhead_36 : decode cX2_hasTwinAhead 36 = .ok (.iconst 0, 1) := by decide +kernel
theorem dX2_hasTwinAhead_37 : decode cX2_hasTwinAhead 37 = .ok (.istore 4, 2) := by decide +kernel
theorem dX2_hasTwinAhead_39 : decode cX2_hasTwinAhead 39 = .ok (.iload 4, 2) := by decide +kernel
theorem dX2_hasTwinAhead_41 : decode cX2_hasTwinAhead 41 = .ok (.ifCond .ne 33, 3) := by decide +kernel
theorem dX2_hasTwinAhead_44 : decode cX2_hasTwinAhead 44 = .ok (.aload_n 0, 1) := by decide +kernel
theorem dX2_hasTwinAhead_45 : decode cX2_hasTwinAhead 45 = .ok (.getfield 9, 3) := by decide +kernel
theorem dX2_hasTwinAhead_48 : decode cX2_hasTwinAhead 48 = .ok (.iload_n 3, 1) := by decide +kernel
theorem dX2_hasTwinAhead_49 : decode cX2_hasTwinAhead 49 = .ok (.iaload, 1) := by decide +kernel
theorem dX2_hasTwinAhead_50 : decode cX2_hasTwinAhead 50 = .ok (.aload_n 0, 1) := by decide +kernel
theorem dX2_hasTwinAhead_51 : decode cX2_hasTwinAhead 51 = .ok (.getfield 9, 3) := by decide +kernel
theorem dX2_hasTwinAhead_54 : decode cX2_hasTwinAhead 54 = .ok (.iload_n 1, 1) := by decide +kernel
theorem dX2_hasTwinAhead_55 : decode cX2_hasTwinAhead 55 = .ok (.iaload, 1) := by decide +kernel
theorem dX2_hasTwinAhead_56 : decode cX2_hasTwinAhead 56 = .ok (.if_icmp .ne 20, 3) := by decide +kernel
theorem dX2_hasTwinAhead_59 : decode cX2_hasTwinAhead 59 = .ok (.aload_n 0, 1) := by decide +kernel
theorem dX2_hasTwinAhead_60 : decode cX2_hasTwinAhead 60 = .ok (.getfield 15, 3) := by decide +kernel
theorem dX2_hasTwinAhead_63 : decode cX2_hasTwinAhead 63 = .ok (.iload_n 3, 1) := by decide +kernel
theorem dX2_hasTwinAhead_64 : decode cX2_hasTwinAhead 64 = .ok (.baload, 1) := by decide +kernel
theorem dX2_hasTwinAhead_65 : decode cX2_hasTwinAhead 65 = .ok (.aload_n 0, 1) := by decide +kernel
theorem dX2_hasTwinAhead_66 : decode cX2_hasTwinAhead 66 = .ok (.getfield 15, 3) := by decide +kernel
theorem dX2_hasTwinAhead_69 : decode cX2_hasTwinAhead 69 = .ok (.iload_n 1, 1) := by decide +kernel
theorem dX2_hasTwinAhead_70 : decode cX2_hasTwinAhead 70 = .ok (.baload, 1) := by decide +kernel
theorem dX2_hasTwinAhead_71 : decode cX2_hasTwinAhead 71 = .ok (.if_icmp .ne 5, 3) := by decide +kernel
theorem dX2_hasTwinAhead_74 : decode cX2_hasTwinAhead 74 = .ok (.iconst 1, 1) := by decide +kernel
theorem dX2_hasTwinAhead_75 : decode cX2_hasTwinAhead 75 = .ok (.ireturn, 1) := by decide +kernel
theorem dX2_hasTwinAhead_76 : decode cX2_hasTwinAhead 76 = .ok (.iinc 3 1, 3) := by decide +kernel
theorem dX2_hasTwinAhead_79 : decode cX2_hasTwinAhead 79 = .ok (.goto (-77), 3) := by decide +kernel
theorem dX2_hasTwinAhead_82 : decode cX2_hasTwinAhead 82 = .ok (.iconst 0, 1) := by decide +kernel
theorem dX2_hasTwinAhead_83 : decode cX2_hasTwinAhead 83 = .ok (.ireturn, 1) := by decide +kernel
theorem dX2_choose_0 : decode cX2_choose 0 = .ok (.aload_n 0, 1) := by decide +kernel
theorem dX2_choose_1 : decode cX2_choose 1 = .ok (.iload_n 1, 1) := by decide +kernel
theorem dX2_choose_2 : decode cX2_choose 2 = .ok (.putfield 47, 3) := by decide +kernel
theorem dX2_choose_5 : decode cX2_choose 5 = .ok (.iconst 0, 1) := by decide +kernel
theorem dX2_choose_6 : decode cX2_choose 6 = .ok (.istore_n 2, 1) := by decide +kernel
theorem dX2_choose_7 : decode cX2_choose 7 = .ok (.iload_n 2, 1) := by decide +kernel
theorem dX2_choose_8 : decode cX2_choose 8 = .ok (.bipush 7, 2) := by decide +kernel
theorem dX2_choose_10 : decode cX2_choose 10 = .ok (.if_icmp .ge 21, 3) := by decide +kernel
theorem dX2_choose_13 : decode cX2_choose 13 = .ok (.aload_n 0, 1) := by decide +kernel
theorem dX2_choose_14 : decode cX2_choose 14 = .ok (.getfield 28, 3) := by decide +kernel
theorem dX2_choose_17 : decode cX2_choose 17 = .ok (.iload_n 2, 1) := by decide +kernel
theorem dX2_choose_18 : decode cX2_choose 18 = .ok (.aload_n 0, 1) := by decide +kernel
theorem dX2_choose_19 : decode cX2_choose 19 = .ok (.getfield 25, 3) := by decide +kernel
theorem dX2_choose_22 : decode cX2_choose 22 = .ok (.iload_n 2, 1) := by decide +kernel
theorem dX2_choose_23 : decode cX2_choose 23 = .ok (.iaload, 1) := by decide +kernel
theorem dX2_choose_24 : decode cX2_choose 24 = .ok (.iastore, 1) := by decide +kernel
theorem dX2_choose_25 : decode cX2_choose 25 = .ok (.iinc 2 1, 3) := by decide +kernel
theorem dX2_choose_28 : decode cX2_choose 28 = .ok (.goto (-21), 3) := by decide +kernel
theorem dX2_choose_31 : decode cX2_choose 31 = .ok (.return_, 1) := by decide +kernel
theorem dX3_init_0 : decode cX3_init 0 = .ok (.aload_n 0, 1) := by decide +kernel
theorem dX3_init_1 : decode cX3_init 1 = .ok (.invokespecial 3, 3) := by decide +kernel
theorem dX3_init_4 : decode cX3_init 4 = .ok (.aload_n 0, 1) := by decide +kernel
theorem dX3_init_5 : decode cX3_init 5 = .ok (.sipush 200, 3) := by decide +kernel
theorem dX3_init_8 : decode cX3_init 8 = .ok (.newarray .char, 2) := by decide +kernel
theorem dX3_init_10 : decode cX3_init 10 = .ok (.putfield 11, 3) := by decide +kernel
theorem dX3_init_13 : decode cX3_init 13 = .ok (.aload_n 0, 1) := by decide +kernel
theorem dX3_init_14 : decode cX3_init 14 = .ok (.iconst 3, 1) := by decide +kernel
theorem dX3_init_15 : decode cX3_init 15 = .ok (.newarray .int, 2) := by decide +kernel
theorem dX3_init_17 : decode cX3_init 17 = .ok (.putfield 15, 3) := by decide +kernel
theorem dX3_init_20 : decode cX3_init 20 = .ok (.return_, 1) := by decide +kernel
theorem dX3_add_0 : decode cX3_add 0 = .ok (.aload_n 0, 1) := by decide +kernel
theorem dX3_add_1 : decode cX3_add 1 = .ok (.getfield 19, 3) := by decide +kernel
theorem dX3_add_4 : decode cX3_add 4 = .ok (.sipush 200, 3) := by decide +kernel
theorem dX3_add_7 : decode cX3_add 7 = .ok (.if_icmp .lt 5, 3) := by decide +kernel
theorem dX3_add_10 : decode cX3_add 10 = .ok (.iconst 0, 1) := by decide +kernel
theorem dX3_add_11 : decode cX3_add 11 = .ok (.ireturn, 1) := by decide +kernel
theorem dX3_add_12 : decode cX3_add 12 = .ok (.aload_n 0, 1) := by decide +kernel
theorem dX3_add_13 : decode cX3_add 13 = .ok (.getfield 11, 3) := by decide +kernel
theorem dX3_add_16 : decode cX3_add 16 = .ok (.aload_n 0, 1) := by decide +kernel
theorem dX3_add_17 : decode cX3_add 17 = .ok (.getfield 19, 3) := by decide +kernel
theorem dX3_add_20 : decode cX3_add 20 = .ok (.iload_n 1, 1) := by decide +kernel
theorem dX3_add_21 : decode cX3_add 21 = .ok (.i2c, 1) := by decide +kernel
theorem dX3_add_22 : decode cX3_add 22 = .ok (.castore, 1) := by decide +kernel
theorem dX3_add_23 : decode cX3_add 23 = .ok (.aload_n 0, 1) := by decide +kernel
theorem dX3_add_24 : decode cX3_add 24 = .ok (.dup, 1) := by decide +kernel
theorem dX3_add_25 : decode cX3_add 25 = .ok (.getfield 19, 3) := by decide +kernel
theorem dX3_add_28 : decode cX3_add 28 = .ok (.iconst 1, 1) := by decide +kernel
theorem dX3_add_29 : decode cX3_add 29 = .ok (.iadd, 1) := by decide +kernel
theorem dX3_add_30 : decode cX3_add 30 = .ok (.putfield 19, 3) := by decide +kernel
theorem dX3_add_33 : decode cX3_add 33 = .ok (.iconst 1, 1) := by decide +kernel
theorem dX3_add_34 : decode cX3_add 34 = .ok (.ireturn, 1) := by decide +kernel
theorem dX3_empty_0 : decode cX3_empty 0 = .ok (.aload_n 0, 1) := by decide +kernel
theorem dX3_empty_1 : decode cX3_empty 1 = .ok (.getfield 19, 3) := by decide +kernel
theorem dX3_empty_4 : decode cX3_empty 4 = .ok (.istore_n 1, 1) := by decide +kernel
theorem dX3_empty_5 : decode cX3_empty 5 = .ok (.aload_n 0, 1) := by decide +kernel
theorem dX3_empty_6 : decode cX3_empty 6 = .ok (.iconst 0, 1) := by decide +kernel
theorem dX3_empty_7 : decode cX3_empty 7 = .ok (.putfield 19, 3) := by decide +kernel
theorem dX3_empty_10 : decode cX3_empty 10 = .ok (.iload_n 1, 1) := by decide +kernel
theorem dX3_empty_11 : decode cX3_empty 11 = .ok (.ireturn, 1) := by decide +kernel
theorem dX3_readInto_0 : decode cX3_readInto 0 = .ok (.aload_n 1, 1) := by decide +kernel
theorem dX3_readInto_1 : decode cX3_readInto 1 = .ok (.invokevirtual 23, 3) := by decide +kernel
theorem dX3_readInto_4 : decode cX3_readInto 4 = .ok (.iconst 0, 1) := by decide +kernel
theorem dX3_readInto_5 : decode cX3_readInto 5 = .ok (.istore_n 2, 1) := by decide +kernel
theorem dX3_readInto_6 : decode cX3_readInto 6 = .ok (.iload_n 2, 1) := by decide +kernel
theorem dX3_readInto_7 : decode cX3_readInto 7 = .ok (.aload_n 0, 1) := by decide +kernel
theorem dX3_readInto_8 : decode cX3_readInto 8 = .ok (.getfield 19, 3) := by decide +kernel
theorem dX3_readInto_11 : decode cX3_readInto 11 = .ok (.if_icmp .ge 34, 3) := by decide +kernel
theorem dX3_readInto_14 : decode cX3_readInto 14 = .ok (.aload_n 0, 1) := by decide +kernel
theorem dX3_readInto_15 : decode cX3_readInto 15 = .ok (.iload_n 2, 1) := by decide +kernel
theorem dX3_readInto_16 : decode cX3_readInto 16 = .ok (.invokevirtual 28, 3) := by decide +kernel
theorem dX3_readInto_19 : decode cX3_readInto 19 = .ok (.istore_n 3, 1) := by decide +kernel
theorem dX3_readInto_20 : decode cX3_readInto 20 = .ok (.iload_n 3, 1) := by decide +kernel
theorem dX3_readInto_21 : decode cX3_readInto 21 = .ok (.iload_n 2, 1) := by decide +kernel
theorem dX3_readInto_22 : decode cX3_readInto 22 = .ok (.if_icmp .le 16, 3) := by decide +kernel
theorem dX3_readInto_25 : decode cX3_readInto 25 = .ok (.aload_n 0, 1) := by decide +kernel
theorem dX3_readInto_26 : decode cX3_readInto 26 = .ok (.aload_n 1, 1) := by decide +kernel
theorem dX3_readInto_27 : decode cX3_readInto 27 = .ok (.aload_n 0, 1) := by decide +kernel
theorem dX3_readInto_28 : decode cX3_readInto 28 = .ok (.iload_n 2, 1) := by decide +kernel
theorem dX3_readInto_29 : decode cX3_readInto 29 = .ok (.invokevirtual 32, 3) := by decide +kernel
theorem dX3_readInto_32 : decode cX3_readInto 32 = .ok (.invokevirtual 36, 3) := by decide +kernel
theorem dX3_readInto_35 : decode cX3_readInto 35 = .ok (.ifCond .ne 5, 3) := by decide +kernel
theorem dX3_readInto_38 : decode cX3_readInto 38 = .ok (.iload_n 2, 1) := by decide +kernel
theorem dX3_readInto_39 : decode cX3_readInto 39 = .ok (.ireturn, 1) := by decide +kernel
theorem dX3_readInto_40 : decode cX3_readInto 40 = .ok (.iload_n 3, 1) := by decide +kernel
theorem dX3_readInto_41 : decode cX3_readInto 41 = .ok (.istore_n 2, 1) := by decide +kernel
theorem dX3_readInto_42 : decode cX3_readInto 42 = .ok (.goto (-36), 3) := by decide +kernel
theorem dX3_readInto_45 : decode cX3_readInto 45 = .ok (.bipush (-4), 2) := by decide +kernel
theorem dX3_readInto_47 : decode cX3_readInto 47 = .ok (.ireturn, 1) := by decide +kernel
theorem dX3_letterAt_0 : decode cX3_letterAt 0 = .ok (.iload_n 1, 1) := by decide +kernel
theorem dX3_letterAt_1 : decode cX3_letterAt 1 = .ok (.ifCond .lt 27, 3) := by decide +kernel
theorem dX3_letterAt_4 : decode cX3_letterAt 4 = .ok (.iload_n 1, 1) := by decide +kernel
theorem dX3_letterAt_5 : decode cX3_letterAt 5 = .ok (.aload_n 0, 1) := by decide +kernel
theorem dX3_letterAt_6 : decode cX3_letterAt 6 = .ok (.getfield 19, 3) := by decide +kernel
theorem dX3_letterAt_9 : decode cX3_letterAt 9 = .ok (.if_icmp .ge 19, 3) := by decide +kernel
theorem dX3_letterAt_12 : decode cX3_letterAt 12 = .ok (.iload_n 1, 1) := by decide +kernel
theorem dX3_letterAt_13 : decode cX3_letterAt 13 = .ok (.sipush 200, 3) := by decide +kernel
theorem dX3_letterAt_16 : decode cX3_letterAt 16 = .ok (.if_icmp .ge 12, 3) := by decide +kernel
theorem dX3_letterAt_19 : decode cX3_letterAt 19 = .ok (.aload_n 0, 1) := by decide +kernel
theorem dX3_letterAt_20 : decode cX3_letterAt 20 = .ok (.getfield 11, 3) := by decide +kernel
theorem dX3_letterAt_23 : decode cX3_letterAt 23 = .ok (.iload_n 1, 1) := by decide +kernel
theorem dX3_letterAt_24 : decode cX3_letterAt 24 = .ok (.caload, 1) := by decide +kernel
theorem dX3_letterAt_25 : decode cX3_letterAt 25 = .ok (.goto 4, 3) := by decide +kernel
theorem dX3_letterAt_28 : decode cX3_letterAt 28 = .ok (.iconst 0, 1) := by decide +kernel
theorem dX3_letterAt_29 : decode cX3_letterAt 29 = .ok (.ireturn, 1) := by decide +kernel
theorem dX3_readItem_0 : decode cX3_readItem 0 = .ok (.aload_n 0, 1) := by decide +kernel
theorem dX3_readItem_1 : decode cX3_readItem 1 = .ok (.iload_n 1, 1) := by decide +kernel
theorem dX3_readItem_2 : decode cX3_readItem 2 = .ok (.invokevirtual 32, 3) := by decide +kernel
theorem dX3_readItem_5 : decode cX3_readItem 5 = .ok (.invokestatic 40, 3) := by decide +kernel
theorem dX3_readItem_8 : decode cX3_readItem 8 = .ok (.istore_n 2, 1) := by decide +kernel
theorem dX3_readItem_9 : decode cX3_readItem 9 = .ok (.iload_n 2, 1) := by decide +kernel
theorem dX3_readItem_10 : decode cX3_readItem 10 = .ok (.ifCond .ne 6, 3) := by decide +kernel
theorem dX3_readItem_13 : decode cX3_readItem 13 = .ok (.bipush (-4), 2) := by decide +kernel
theorem dX3_readItem_15 : decode cX3_readItem 15 = .ok (.ireturn, 1) := by decide +kernel
theorem dX3_readItem_16 : decode cX3_readItem 16 = .ok (.iload_n 1, 1) := by decide +kernel
theorem dX3_readItem_17 : decode cX3_readItem 17 = .ok (.iconst 1, 1) := by decide +kernel
theorem dX3_readItem_18 : decode cX3_readItem 18 = .ok (.iadd, 1) := by decide +kernel
theorem dX3_readItem_19 : decode cX3_readItem 19 = .ok (.istore_n 3, 1) := by decide +kernel
theorem dX3_readItem_20 : decode cX3_readItem 20 = .ok (.iconst 0, 1) := by decide +kernel
theorem dX3_readItem_21 : decode cX3_readItem 21 = .ok (.istore 4, 2) := by decide +kernel
theorem dX3_readItem_23 : decode cX3_readItem 23 = .ok (.iload 4, 2) := by decide +kernel
theorem dX3_readItem_25 : decode cX3_readItem 25 = .ok (.iload_n 2, 1) := by decide +kernel
theorem dX3_readItem_26 : decode cX3_readItem 26 = .ok (.if_icmp .ge 78, 3) := by decide +kernel
theorem dX3_readItem_29 : decode cX3_readItem 29 = .ok (.iload 4, 2) := by decide +kernel
theorem dX3_readItem_31 : decode cX3_readItem 31 = .ok (.iconst 3, 1) := by decide +kernel
theorem dX3_readItem_32 : decode cX3_readItem 32 = .ok (.if_icmp .ge 72, 3) := by decide +kernel
theorem dX3_readItem_35 : decode cX3_readItem 35 = .ok (.aload_n 0, 1) := by decide +kernel
theorem dX3_readItem_36 : decode cX3_readItem 36 = .ok (.iload_n 3, 1) := by decide +kernel
theorem dX3_readItem_37 : decode cX3_readItem 37 = .ok (.invokevirtual 44, 3) := by decide +kernel
theorem dX3_readItem_40 : decode cX3_readItem 40 = .ok (.istore 5, 2) := by decide +kernel
theorem dX3_readItem_42 : decode cX3_readItem 42 = .ok (.iload 5, 2) := by decide +kernel
theorem dX3_readItem_44 : decode cX3_readItem 44 = .ok (.ifCond .ne 6, 3) := by decide +kernel
theorem dX3_readItem_47 : decode cX3_readItem 47 = .ok (.bipush (-4), 2) := by decide +kernel
theorem dX3_readItem_49 : decode cX3_readItem 49 = .ok (.ireturn, 1) := by decide +kernel
theorem dX3_readItem_50 : decode cX3_readItem 50 = .ok (.aload_n 0, 1) := by decide +kernel
theorem dX3_readItem_51 : decode cX3_readItem 51 = .ok (.getfield 15, 3) := by decide +kernel
theorem dX3_readItem_54 : decode cX3_readItem 54 = .ok (.iload 4, 2) := by decide +kernel
theorem dX3_readItem_56 : decode cX3_readItem 56 = .ok (.aload_n 0, 1) := by decide +kernel
theorem dX3_readItem_57 : decode cX3_readItem 57 = .ok (.iload_n 3, 1) := by decide +kernel
theorem dX3_readItem_58 : decode cX3_readItem 58 = .ok (.iload 5, 2) := by decide +kernel
theorem dX3_readItem_60 : decode cX3_readItem 60 = .ok (.invokevirtual 47, 3) := by decide +kernel
theorem dX3_readItem_63 : decode cX3_readItem 63 = .ok (.iastore, 1) := by decide +kernel
theorem dX3_readItem_64 : decode cX3_readItem 64 = .ok (.iload_n 3, 1) := by decide +kernel
theorem dX3_readItem_65 : decode cX3_readItem 65 = .ok (.iload 5, 2) := by decide +kernel
theorem dX3_readItem_67 : decode cX3_readItem 67 = .ok (.iadd, 1) := by decide +kernel
theorem dX3_readItem_68 : decode cX3_readItem 68 = .ok (.istore_n 3, 1) := by decide +kernel
theorem dX3_readItem_69 : decode cX3_readItem 69 = .ok (.aload_n 0, 1) := by decide +kernel
theorem dX3_readItem_70 : decode cX3_readItem 70 = .ok (.iload_n 3, 1) := by decide +kernel
theorem dX3_readItem_71 : decode cX3_readItem 71 = .ok (.invokevirtual 32, 3) := by decide +kernel
theorem dX3_readItem_74 : decode cX3_readItem 74 = .ok (.iload 4, 2) := by decide +kernel
theorem dX3_readItem_76 : decode cX3_readItem 76 = .ok (.iload_n 2, 1) := by decide +kernel
theorem dX3_readItem_77 : decode cX3_readItem 77 = .ok (.iconst 1, 1) := by decide +kernel
theorem dX3_readItem_78 : decode cX3_readItem 78 = .ok (.isub, 1) := by decide +kernel
theorem dX3_readItem_79 : decode cX3_readItem 79 = .ok (.if_icmp .ne 8, 3) := by decide +kernel
theorem dX3_readItem_82 : decode cX3_readItem 82 = .ok (.bipush 59, 2) := by decide +kernel
theorem dX3_readItem_84 : decode cX3_readItem 84 = .ok (.goto 5, 3) := by decide +kernel
theorem dX3_readItem_87 : decode cX3_readItem 87 = .ok (.bipush 44, 2) := by decide +kernel
theorem dX3_readItem_89 : decode cX3_readItem 89 = .ok (.if_icmp .eq 6, 3) := by decide +kernel
theorem dX3_readItem_92 : decode cX3_readItem 92 = .ok (.bipush (-4), 2) := by decide +kernel
theorem dX3_readItem_94 : decode cX3_readItem 94 = .ok (.ireturn, 1) := by decide +kernel
theorem dX3_readItem_95 : decode cX3_readItem 95 = .ok (.iinc 3 1, 3) := by decide +kernel
theorem dX3_readItem_98 : decode cX3_readItem 98 = .ok (.iinc 4 1, 3) := by decide +kernel
theorem dX3_readItem_101 : decode cX3_readItem 101 = .ok (.goto (-78), 3) := by decide +kernel
theorem dX3_readItem_104 : decode cX3_readItem 104 = .ok (.iload_n 3, 1) := by decide +kernel
theorem dX3_readItem_105 : decode cX3_readItem 105 = .ok (.ireturn, 1) := by decide +kernel
theorem dX3_numbersOf_0 : decode cX3_numbersOf 0 = .ok (.iload_n 0, 1) := by decide +kernel
theorem dX3_numbersOf_1 : decode cX3_numbersOf 1 = .ok (.lookupswitch 51 #[(102, 49), (103, 43), (104, 45), (119, 47)], 43) := by decide +kernel
theorem dX3_numbersOf_44 : decode cX3_numbersOf 44 = .ok (.iconst 1, 1) := by decide +kernel
theorem dX3_numbersOf_45 : decode cX3_numbersOf 45 = .ok (.ireturn, 1) := by decide +kernel
theorem dX3_numbersOf_46 : decode cX3_numbersOf 46 = .ok (.iconst 3, 1) := by decide +kernel
theorem dX3_numbersOf_47 : decode cX3_numbersOf 47 = .ok (.ireturn, 1) := by decide +kernel
theorem dX3_numbersOf_48 : decode cX3_numbersOf 48 = .ok (.iconst 2, 1) := by decide +kernel
theorem dX3_numbersOf_49 : decode cX3_numbersOf 49 = .ok (.ireturn, 1) := by decide +kernel
theorem dX3_numbersOf_50 : decode cX3_numbersOf 50 = .ok (.iconst 1, 1) := by decide +kernel
theorem dX3_numbersOf_51 : decode cX3_numbersOf 51 = .ok (.ireturn, 1) := by decide +kernel
theorem dX3_numbersOf_52 : decode cX3_numbersOf 52 = .ok (.iconst 0, 1) := by decide +kernel
theorem dX3_numbersOf_53 : decode cX3_numbersOf 53 = .ok (.ireturn, 1) := by decide +kernel
theorem dX3_figuresAt_0 : decode cX3_figuresAt 0 = .ok (.aload_n 0, 1) := by decide +kernel
theorem dX3_figuresAt_1 : decode cX3_figuresAt 1 = .ok (.iload_n 1, 1) := by decide +kernel
theorem dX3_figuresAt_2 : decode cX3_figuresAt 2 = .ok (.invokevirtual 32, 3) := by decide +kernel
theorem dX3_figuresAt_5 : decode cX3_figuresAt 5 = .ok (.invokestatic 51, 3) := by decide +kernel
theorem dX3_figuresAt_8 : decode cX3_figuresAt 8 = .ok (.ifCond .ne 5, 3) := by decide +kernel
theorem dX3_figuresAt_11 : decode cX3_figuresAt 11 = .ok (.iconst 0, 1) := by decide +kernel
theorem dX3_figuresAt_12 : decode cX3_figuresAt 12 = .ok (.ireturn, 1) := by decide +kernel
theorem dX3_figuresAt_13 : decode cX3_figuresAt 13 = .ok (.aload_n 0, 1) := by decide +kernel
theorem dX3_figuresAt_14 : decode cX3_figuresAt 14 = .ok (.iload_n 1, 1) := by decide +kernel
theorem dX3_figuresAt_15 : decode cX3_figuresAt 15 = .ok (.iconst 1, 1) := by decide +kernel
theorem dX3_figuresAt_16 : decode cX3_figuresAt 16 = .ok (.iadd, 1) := by decide +kernel
theorem dX3_figuresAt_17 : decode cX3_figuresAt 17 = .ok (.invokevirtual 32, 3) := by decide +kernel
theorem dX3_figuresAt_20 : decode cX3_figuresAt 20 = .ok (.invokestatic 51, 3) := by decide +kernel
theorem dX3_figuresAt_23 : decode cX3_figuresAt 23 = .ok (.ifCond .eq 7, 3) := by decide +kernel
theorem dX3_figuresAt_26 : decode cX3_figuresAt 26 = .ok (.iconst 2, 1) := by decide +kernel
theorem dX3_figuresAt_27 : decode cX3_figuresAt 27 = .ok (.goto 4, 3) := by decide +kernel
theorem dX3_figuresAt_30 : decode cX3_figuresAt 30 = .ok (.iconst 1, 1) := by decide +kernel
theorem dX3_figuresAt_31 : decode cX3_figuresAt 31 = .ok (.ireturn, 1) := by decide +kernel
theorem dX3_isFigure_0 : decode cX3_isFigure 0 = .ok (.iload_n 0, 1) := by decide +kernel
theorem dX3_isFigure_1 : decode cX3_isFigure 1 = .ok (.bipush 48, 2) := by decide +kernel
theorem dX3_isFigure_3 : decode cX3_isFigure 3 = .ok (.if_icmp .lt 13, 3) := by decide +kernel
theorem dX3_isFigure_6 : decode cX3_isFigure 6 = .ok (.iload_n 0, 1) := by decide +kernel
theorem dX3_isFigure_7 : decode cX3_isFigure 7 = .ok (.bipush 57, 2) := by decide +kernel
theorem dX3_isFigure_9 : decode cX3_isFigure 9 = .ok (.if_icmp .gt 7, 3) := by decide +kernel
theorem dX3_isFigure_12 : decode cX3_isFigure 12 = .ok (.iconst 1, 1) := by decide +kernel
theorem dX3_isFigure_13 : decode cX3_isFigure 13 = .ok (.goto 4, 3) := by decide +kernel
theorem dX3_isFigure_16 : decode cX3_isFigure 16 = .ok (.iconst 0, 1) := by decide +kernel
theorem dX3_isFigure_17 : decode cX3_isFigure 17 = .ok (.ireturn, 1) := by decide +kernel
theorem dX3_numberAt_0 : decode cX3_numberAt 0 = .ok (.aload_n 0, 1) := by decide +kernel
theorem dX3_numberAt_1 : decode cX3_numberAt 1 = .ok (.iload_n 1, 1) := by decide +kernel
theorem dX3_numberAt_2 : decode cX3_numberAt 2 = .ok (.invokevirtual 32, 3) := by decide +kernel
theorem dX3_numberAt_5 : decode cX3_numberAt 5 = .ok (.bipush 48, 2) := by decide +kernel
theorem dX3_numberAt_7 : decode cX3_numberAt 7 = .ok (.isub, 1) := by decide +kernel
theorem dX3_numberAt_8 : decode cX3_numberAt 8 = .ok (.istore_n 3, 1) := by decide +kernel
theorem dX3_numberAt_9 : decode cX3_numberAt 9 = .ok (.iload_n 2, 1) := by decide +kernel
theorem dX3_numberAt_10 : decode cX3_numberAt 10 = .ok (.iconst 1, 1) := by decide +kernel
theorem dX3_numberAt_11 : decode cX3_numberAt 11 = .ok (.if_icmp .ne 7, 3) := by decide +kernel
theorem dX3_numberAt_14 : decode cX3_numberAt 14 = .ok (.iload_n 3, 1) := by decide +kernel
theorem dX3_numberAt_15 : decode cX3_numberAt 15 = .ok (.goto 18, 3) := by decide +kernel
theorem dX3_numberAt_18 : decode cX3_numberAt 18 = .ok (.iload_n 3, 1) := by decide +kernel
theorem dX3_numberAt_19 : decode cX3_numberAt 19 = .ok (.bipush 10, 2) := by decide +kernel
theorem dX3_numberAt_21 : decode cX3_numberAt 21 = .ok (.imul, 1) := by decide +kernel
theorem dX3_numberAt_22 : decode cX3_numberAt 22 = .ok (.aload_n 0, 1) := by decide +kernel
theorem dX3_numberAt_23 : decode cX3_numberAt 23 = .ok (.iload_n 1, 1) := by decide +kernel
theorem dX3_numberAt_24 : decode cX3_numberAt 24 = .ok (.iconst 1, 1) := by decide +kernel
theorem dX3_numberAt_25 : decode cX3_numberAt 25 = .ok (.iadd, 1) := by decide +kernel
theorem dX3_numberAt_26 : decode cX3_numberAt 26 = .ok (.invokevirtual 32, 3) := by decide +kernel
theorem dX3_numberAt_29 : decode cX3_numberAt 29 = .ok (.iadd, 1) := by decide +kernel
theorem dX3_numberAt_30 : decode cX3_numberAt 30 = .ok (.bipush 48, 2) := by decide +kernel
theorem dX3_numberAt_32 : decode cX3_numberAt 32 = .ok (.isub, 1) := by decide +kernel
theorem dX3_numberAt_33 : decode cX3_numberAt 33 = .ok (.ireturn, 1) := by decide +kernel
theorem dX3_tell_0 : decode cX3_tell 0 = .ok (.iload_n 2, 1) := by decide +kernel
theorem dX3_tell_1 : decode cX3_tell 1 = .ok (.lookupswitch 105 #[(102, 94), (103, 43), (104, 54), (119, 77)], 43) := by decide +kernel
theorem dX3_tell_44 : decode cX3_tell 44 = .ok (.aload_n 1, 1) := by decide +kernel
theorem dX3_tell_45 : decode cX3_tell 45 = .ok (.aload_n 0, 1) := by decide +kernel
theorem dX3_tell_46 : decode cX3_tell 46 = .ok (.getfield 15, 3) := by decide +kernel
theorem dX3_tell_49 : decode cX3_tell 49 = .ok (.iconst 0, 1) := by decide +kernel
theorem dX3_tell_50 : decode cX3_tell 50 = .ok (.iaload, 1) := by decide +kernel
theorem dX3_tell_51 : decode cX3_tell 51 = .ok (.invokevirtual 55, 3) := by decide +kernel
theorem dX3_tell_54 : decode cX3_tell 54 = .ok (.ireturn, 1) := by decide +kernel
theorem dX3_tell_55 : decode cX3_tell 55 = .ok (.aload_n 1, 1) := by decide +kernel
theorem dX3_tell_56 : decode cX3_tell 56 = .ok (.aload_n 0, 1) := by decide +kernel
theorem dX3_tell_57 : decode cX3_tell 57 = .ok (.getfield 15, 3) := by decide +kernel
theorem dX3_tell_60 : decode cX3_tell 60 = .ok (.iconst 0, 1) := by decide +kernel
theorem dX3_tell_61 : decode cX3_tell 61 = .ok (.iaload, 1) := by decide +kernel
theorem dX3_tell_62 : decode cX3_tell 62 = .ok (.aload_n 0, 1) := by decide +kernel
theorem dX3_tell_63 : decode cX3_tell 63 = .ok (.getfield 15, 3) := by decide +kernel
theorem dX3_tell_66 : decode cX3_tell 66 = .ok (.iconst 1, 1) := by decide +kernel
theorem dX3_tell_67 : decode cX3_tell 67 = .ok (.iaload, 1) := by decide +kernel
theorem dX3_tell_68 : decode cX3_tell 68 = .ok (.aload_n 0, 1) := by decide +kernel
theorem dX3_tell_69 : decode cX3_tell 69 = .ok (.getfield 15, 3) := by decide +kernel
theorem dX3_tell_72 : decode cX3_tell 72 = .ok (.iconst 2, 1) := by decide +kernel
theorem dX3_tell_73 : decode cX3_tell 73 = .ok (.iaload, 1) := by decide +kernel
theorem dX3_tell_74 : decode cX3_tell 74 = .ok (.invokevirtual 59, 3) := by decide +kernel
theorem dX3_tell_77 : decode cX3_tell 77 = .ok (.ireturn, 1) := by decide +kernel
theorem dX3_tell_78 : decode cX3_tell 78 = .ok (.aload_n 1, 1) := by decide +kernel
theorem dX3_tell_79 : decode cX3_tell 79 = .ok (.aload_n 0, 1) := by decide +kernel
theorem dX3_tell_80 : decode cX3_tell 80 = .ok (.getfield 15, 3) := by decide +kernel
theorem dX3_tell_83 : decode cX3_tell 83 = .ok (.iconst 0, 1) := by decide +kernel
theorem dX3_tell_84 : decode cX3_tell 84 = .ok (.iaload, 1) := by decide +kernel
theorem dX3_tell_85 : decode cX3_tell 85 = .ok (.aload_n 0, 1) := by decide +kernel
theorem dX3_tell_86 : decode cX3_tell 86 = .ok (.getfield 15, 3) := by decide +kernel
theorem dX3_tell_89 : decode cX3_tell 89 = .ok (.iconst 1, 1) := by decide +kernel
theorem dX3_tell_90 : decode cX3_tell 90 = .ok (.iaload, 1) := by decide +kernel
theorem dX3_tell_91 : decode cX3_tell 91 = .ok (.invokevirtual 63, 3) := by decide +kernel
theorem dX3_tell_94 : decode cX3_tell 94 = .ok (.ireturn, 1) := by decide +kernel
theorem dX3_tell_95 : decode cX3_tell 95 = .ok (.aload_n 1, 1) := by decide +kernel
theorem dX3_tell_96 : decode cX3_tell 96 = .ok (.aload_n 0, 1) := by decide +kernel
theorem dX3_tell_97 : decode cX3_tell 97 = .ok (.getfield 15, 3) := by decide +kernel
theorem dX3_tell_100 : decode cX3_tell 100 = .ok (.iconst 0, 1) := by decide +kernel
theorem dX3_tell_101 : decode cX3_tell 101 = .ok (.iaload, 1) := by decide +kernel
theorem dX3_tell_102 : decode cX3_tell 102 = .ok (.invokevirtual 67, 3) := by decide +kernel
theorem dX3_tell_105 : decode cX3_tell 105 = .ok (.ireturn, 1) := by decide +kernel
theorem dX3_tell_106 : decode cX3_tell 106 = .ok (.iconst 0, 1) := by decide +kernel
theorem dX3_tell_107 : decode cX3_tell 107 = .ok (.ireturn, 1) := by decide +kernel
theorem dX4_init_0 : decode cX4_init 0 = .ok (.aload_n 0, 1) := by decide +kernel
theorem dX4_init_1 : decode cX4_init 1 = .ok (.invokespecial 1, 3) := by decide +kernel
theorem dX4_init_4 : decode cX4_init 4 = .ok (.aload_n 0, 1) := by decide +kernel
theorem dX4_init_5 : decode cX4_init 5 = .ok (.iconst 1, 1) := by decide +kernel
theorem dX4_init_6 : decode cX4_init 6 = .ok (.iload_n 1, 1) := by decide +kernel
theorem dX4_init_7 : decode cX4_init 7 = .ok (.invokestatic 7, 3) := by decide +kernel
theorem dX4_init_10 : decode cX4_init 10 = .ok (.anewarray 13, 3) := by decide +kernel
theorem dX4_init_13 : decode cX4_init 13 = .ok (.putfield 15, 3) := by decide +kernel
theorem dX4_init_16 : decode cX4_init 16 = .ok (.iconst 0, 1) := by decide +kernel
theorem dX4_init_17 : decode cX4_init 17 = .ok (.istore_n 2, 1) := by decide +kernel
theorem dX4_init_18 : decode cX4_init 18 = .ok (.iload_n 2, 1) := by decide +kernel
theorem dX4_init_19 : decode cX4_init 19 = .ok (.aload_n 0, 1) := by decide +kernel
theorem dX4_init_20 : decode cX4_init 20 = .ok (.getfield 15, 3) := by decide +kernel
theorem dX4_init_23 : decode cX4_init 23 = .ok (.arraylength, 1) := by decide +kernel
theorem dX4_init_24 : decode cX4_init 24 = .ok (.if_icmp .ge 22, 3) := by decide +kernel
theorem dX4_init_27 : decode cX4_init 27 = .ok (.aload_n 0, 1) := by decide +kernel
theorem dX4_init_28 : decode cX4_init 28 = .ok (.getfield 15, 3) := by decide +kernel
theorem dX4_init_31 : decode cX4_init 31 = .ok (.iload_n 2, 1) := by decide +kernel
theorem dX4_init_32 : decode cX4_init 32 = .ok (.new 13, 3) := by decide +kernel
theorem dX4_init_35 : decode cX4_init 35 = .ok (.dup, 1) := by decide +kernel
theorem dX4_init_36 : decode cX4_init 36 = .ok (.invokespecial 21, 3) := by decide +kernel
theorem dX4_init_39 : decode cX4_init 39 = .ok (.aastore, 1) := by decide +kernel
theorem dX4_init_40 : decode cX4_init 40 = .ok (.iinc 2 1, 3) := by decide +kernel
theorem dX4_init_43 : decode cX4_init 43 = .ok (.goto (-25), 3) := by decide +kernel
theorem dX4_init_46 : decode cX4_init 46 = .ok (.return_, 1) := by decide +kernel
theorem dX4_empty_0 : decode cX4_empty 0 = .ok (.aload_n 0, 1) := by decide +kernel
theorem dX4_empty_1 : decode cX4_empty 1 = .ok (.iconst 0, 1) := by decide +kernel
theorem dX4_empty_2 : decode cX4_empty 2 = .ok (.putfield 22, 3) := by decide +kernel
theorem dX4_empty_5 : decode cX4_empty 5 = .ok (.return_, 1) := by decide +kernel
theorem dX4_isFull_0 : decode cX4_isFull 0 = .ok (.aload_n 0, 1) := by decide +kernel
theorem dX4_isFull_1 : decode cX4_isFull 1 = .ok (.getfield 22, 3) := by decide +kernel
theorem dX4_isFull_4 : decode cX4_isFull 4 = .ok (.aload_n 0, 1) := by decide +kernel
theorem dX4_isFull_5 : decode cX4_isFull 5 = .ok (.getfield 15, 3) := by decide +kernel
theorem dX4_isFull_8 : decode cX4_isFull 8 = .ok (.arraylength, 1) := by decide +kernel
theorem dX4_isFull_9 : decode cX4_isFull 9 = .ok (.if_icmp .lt 7, 3) := by decide +kernel
theorem dX4_isFull_12 : decode cX4_isFull 12 = .ok (.iconst 1, 1) := by decide +kernel
theorem dX4_isFull_13 : decode cX4_isFull 13 = .ok (.goto 4, 3) := by decide +kernel
theorem dX4_isFull_16 : decode cX4_isFull 16 = .ok (.iconst 0, 1) := by decide +kernel
theorem dX4_isFull_17 : decode cX4_isFull 17 = .ok (.ireturn, 1) := by decide +kernel
theorem dX4_store_0 : decode cX4_store 0 = .ok (.aload_n 0, 1) := by decide +kernel
theorem dX4_store_1 : decode cX4_store 1 = .ok (.aload_n 0, 1) := by decide +kernel
theorem dX4_store_2 : decode cX4_store 2 = .ok (.getfield 26, 3) := by decide +kernel
theorem dX4_store_5 : decode cX4_store 5 = .ok (.invokevirtual 29, 3) := by decide +kernel
theorem dX4_store_8 : decode cX4_store 8 = .ok (.astore_n 2, 1) := by decide +kernel
theorem dX4_store_9 : decode cX4_store 9 = .ok (.aload_n 2, 1) := by decide +kernel
theorem dX4_store_10 : decode cX4_store 10 = .ok (.ifnonnull 4, 3) := by decide +kernel
theorem dX4_store_13 : decode cX4_store 13 = .ok (.return_, 1) := by decide +kernel
theorem dX4_store_14 : decode cX4_store 14 = .ok (.aload_n 2, 1) := by decide +kernel
theorem dX4_store_15 : decode cX4_store 15 = .ok (.aload_n 1, 1) := by decide +kernel
theorem dX4_store_16 : decode cX4_store 16 = .ok (.invokevirtual 33, 3) := by decide +kernel
theorem dX4_store_19 : decode cX4_store 19 = .ok (.aload_n 0, 1) := by decide +kernel
theorem dX4_store_20 : decode cX4_store 20 = .ok (.aload_n 0, 1) := by decide +kernel
theorem dX4_store_21 : decode cX4_store 21 = .ok (.getfield 26, 3) := by decide +kernel
theorem dX4_store_24 : decode cX4_store 24 = .ok (.iconst 1, 1) := by decide +kernel
theorem dX4_store_25 : decode cX4_store 25 = .ok (.iadd, 1) := by decide +kernel
theorem dX4_store_26 : decode cX4_store 26 = .ok (.aload_n 0, 1) := by decide +kernel
theorem dX4_store_27 : decode cX4_store 27 = .ok (.getfield 15, 3) := by decide +kernel
theorem dX4_store_30 : decode cX4_store 30 = .ok (.arraylength, 1) := by decide +kernel
theorem dX4_store_31 : decode cX4_store 31 = .ok (.if_icmp .ge 12, 3) := by decide +kernel
theorem dX4_store_34 : decode cX4_store 34 = .ok (.aload_n 0, 1) := by decide +kernel
theorem dX4_store_35 : decode cX4_store 35 = .ok (.getfield 26, 3) := by decide +kernel
theorem dX4_store_38 : decode cX4_store 38 = .ok (.iconst 1, 1) := by decide +kernel
theorem dX4_store_39 : decode cX4_store 39 = .ok (.iadd, 1) := by decide +kernel
theorem dX4_store_40 : decode cX4_store 40 = .ok (.goto 4, 3) := by decide +kernel
theorem dX4_store_43 : decode cX4_store 43 = .ok (.iconst 0, 1) := by decide +kernel
theorem dX4_store_44 : decode cX4_store 44 = .ok (.putfield 26, 3) := by decide +kernel
theorem dX4_store_47 : decode cX4_store 47 = .ok (.aload_n 0, 1) := by decide +kernel
theorem dX4_store_48 : decode cX4_store 48 = .ok (.invokevirtual 37, 3) := by decide +kernel
theorem dX4_store_51 : decode cX4_store 51 = .ok (.ifCond .ne 13, 3) := by decide +kernel
theorem dX4_store_54 : decode cX4_store 54 = .ok (.aload_n 0, 1) := by decide +kernel
theorem dX4_store_55 : decode cX4_store 55 = .ok (.dup, 1) := by decide +kernel
theorem dX4_store_56 : decode cX4_store 56 = .ok (.getfield 22, 3) := by decide +kernel
theorem dX4_store_59 : decode cX4_store 59 = .ok (.iconst 1, 1) := by decide +kernel
theorem dX4_store_60 : decode cX4_store 60 = .ok (.iadd, 1) := by decide +kernel
theorem dX4_store_61 : decode cX4_store 61 = .ok (.putfield 22, 3) := by decide +kernel
theorem dX4_store_64 : decode cX4_store 64 = .ok (.return_, 1) := by decide +kernel
theorem dX4_fetchInto_0 : decode cX4_fetchInto 0 = .ok (.aload_n 0, 1) := by decide +kernel
theorem dX4_fetchInto_1 : decode cX4_fetchInto 1 = .ok (.getfield 26, 3) := by decide +kernel
theorem dX4_fetchInto_4 : decode cX4_fetchInto 4 = .ok (.ifCond .le 12, 3) := by decide +kernel
theorem dX4_fetchInto_7 : decode cX4_fetchInto 7 = .ok (.aload_n 0, 1) := by decide +kernel
theorem dX4_fetchInto_8 : decode cX4_fetchInto 8 = .ok (.getfield 26, 3) := by decide +kernel
theorem dX4_fetchInto_11 : decode cX4_fetchInto 11 = .ok (.iconst 1, 1) := by decide +kernel
theorem dX4_fetchInto_12 : decode cX4_fetchInto 12 = .ok (.isub, 1) := by decide +kernel
theorem dX4_fetchInto_13 : decode cX4_fetchInto 13 = .ok (.goto 10, 3) := by decide +kernel
theorem dX4_fetchInto_16 : decode cX4_fetchInto 16 = .ok (.aload_n 0, 1) := by decide +kernel
theorem dX4_fetchInto_17 : decode cX4_fetchInto 17 = .ok (.getfield 15, 3) := by decide +kernel
theorem dX4_fetchInto_20 : decode cX4_fetchInto 20 = .ok (.arraylength, 1) := by decide +kernel
theorem dX4_fetchInto_21 : decode cX4_fetchInto 21 = .ok (.iconst 1, 1) := by decide +kernel
theorem dX4_fetchInto_22 : decode cX4_fetchInto 22 = .ok (.isub, 1) := by decide +kernel
theorem dX4_fetchInto_23 : decode cX4_fetchInto 23 = .ok (.istore_n 2, 1) := by decide +kernel
theorem dX4_fetchInto_24 : decode cX4_fetchInto 24 = .ok (.aload_n 0, 1) := by decide +kernel
theorem dX4_fetchInto_25 : decode cX4_fetchInto 25 = .ok (.iload_n 2, 1) := by decide +kernel
theorem dX4_fetchInto_26 : decode cX4_fetchInto 26 = .ok (.invokevirtual 29, 3) := by decide +kernel
theorem dX4_fetchInto_29 : decode cX4_fetchInto 29 = .ok (.astore_n 3, 1) := by decide +kernel
theorem dX4_fetchInto_30 : decode cX4_fetchInto 30 = .ok (.aload_n 0, 1) := by decide +kernel
theorem dX4_fetchInto_31 : decode cX4_fetchInto 31 = .ok (.getfield 22, 3) := by decide +kernel
theorem dX4_fetchInto_34 : decode cX4_fetchInto 34 = .ok (.ifCond .eq 7, 3) := by decide +kernel
theorem dX4_fetchInto_37 : decode cX4_fetchInto 37 = .ok (.aload_n 3, 1) := by decide +kernel
theorem dX4_fetchInto_38 : decode cX4_fetchInto 38 = .ok (.ifnonnull 5, 3) := by decide +kernel
theorem dX4_fetchInto_41 : decode cX4_fetchInto 41 = .ok (.iconst 0, 1) := by decide +kernel
theorem dX4_fetchInto_42 : decode cX4_fetchInto 42 = .ok (.ireturn, 1) := by decide +kernel
theorem dX4_fetchInto_43 : decode cX4_fetchInto 43 = .ok (.aload_n 1, 1) := by decide +kernel
theorem dX4_fetchInto_44 : decode cX4_fetchInto 44 = .ok (.aload_n 3, 1) := by decide +kernel
theorem dX4_fetchInto_45 : decode cX4_fetchInto 45 = .ok (.invokevirtual 33, 3) := by decide +kernel
theorem dX4_fetchInto_48 : decode cX4_fetchInto 48 = .ok (.aload_n 0, 1) := by decide +kernel
theorem dX4_fetchInto_49 : decode cX4_fetchInto 49 = .ok (.iload_n 2, 1) := by decide +kernel
theorem dX4_fetchInto_50 : decode cX4_fetchInto 50 = .ok (.putfield 26, 3) := by decide +kernel
theorem dX4_fetchInto_53 : decode cX4_fetchInto 53 = .ok (.aload_n 0, 1) := by decide +kernel
theorem dX4_fetchInto_54 : decode cX4_fetchInto 54 = .ok (.dup, 1) := by decide +kernel
theorem dX4_fetchInto_55 : decode cX4_fetchInto 55 = .ok (.getfield 22, 3) := by decide +kernel
theorem dX4_fetchInto_58 : decode cX4_fetchInto 58 = .ok (.iconst 1, 1) := by decide +kernel
theorem dX4_fetchInto_59 : decode cX4_fetchInto 59 = .ok (.isub, 1) := by decide +kernel
theorem dX4_fetchInto_60 : decode cX4_fetchInto 60 = .ok (.putfield 22, 3) := by decide +kernel
theorem dX4_fetchInto_63 : decode cX4_fetchInto 63 = .ok (.iconst 1, 1) := by decide +kernel
theorem dX4_fetchInto_64 : decode cX4_fetchInto 64 = .ok (.ireturn, 1) := by decide +kernel
theorem dX4_slotAt_0 : decode cX4_slotAt 0 = .ok (.iload_n 1, 1) := by decide +kernel
theorem dX4_slotAt_1 : decode cX4_slotAt 1 = .ok (.ifCond .lt 21, 3) := by decide +kernel
theorem dX4_slotAt_4 : decode cX4_slotAt 4 = .ok (.iload_n 1, 1) := by decide +kernel
theorem dX4_slotAt_5 : decode cX4_slotAt 5 = .ok (.aload_n 0, 1) := by decide +kernel
theorem dX4_slotAt_6 : decode cX4_slotAt 6 = .ok (.getfield 15, 3) := by decide +kernel
theorem dX4_slotAt_9 : decode cX4_slotAt 9 = .ok (.arraylength, 1) := by decide +kernel
theorem dX4_slotAt_10 : decode cX4_slotAt 10 = .ok (.if_icmp .ge 12, 3) := by decide +kernel
theorem dX4_slotAt_13 : decode cX4_slotAt 13 = .ok (.aload_n 0, 1) := by decide +kernel
theorem dX4_slotAt_14 : decode cX4_slotAt 14 = .ok (.getfield 15, 3) := by decide +kernel
theorem dX4_slotAt_17 : decode cX4_slotAt 17 = .ok (.iload_n 1, 1) := by decide +kernel
theorem dX4_slotAt_18 : decode cX4_slotAt 18 = .ok (.aaload, 1) := by decide +kernel
theorem dX4_slotAt_19 : decode cX4_slotAt 19 = .ok (.goto 4, 3) := by decide +kernel
theorem dX4_slotAt_22 : decode cX4_slotAt 22 = .ok (.aconst_null, 1) := by decide +kernel
theorem dX4_slotAt_23 : decode cX4_slotAt 23 = .ok (.areturn, 1) := by decide +kernel
theorem dX5_init_0 : decode cX5_init 0 = .ok (.aload_n 0, 1) := by decide +kernel
theorem dX5_init_1 : decode cX5_init 1 = .ok (.invokespecial 3, 3) := by decide +kernel
theorem dX5_init_4 : decode cX5_init 4 = .ok (.aload_n 0, 1) := by decide +kernel
theorem dX5_init_5 : decode cX5_init 5 = .ok (.bipush 6, 2) := by decide +kernel
theorem dX5_init_7 : decode cX5_init 7 = .ok (.newarray .int, 2) := by decide +kernel
theorem dX5_init_9 : decode cX5_init 9 = .ok (.putfield 11, 3) := by decide +kernel
theorem dX5_init_12 : decode cX5_init 12 = .ok (.aload_n 0, 1) := by decide +kernel
theorem dX5_init_13 : decode cX5_init 13 = .ok (.bipush 6, 2) := by decide +kernel
theorem dX5_init_15 : decode cX5_init 15 = .ok (.newarray .int, 2) := by decide +kernel
theorem dX5_init_17 : decode cX5_init 17 = .ok (.putfield 15, 3) := by decide +kernel
theorem dX5_init_20 : decode cX5_init 20 = .ok (.aload_n 0, 1) := by decide +kernel
theorem dX5_init_21 : decode cX5_init 21 = .ok (.bipush 6, 2) := by decide +kernel
theorem dX5_init_23 : decode cX5_init 23 = .ok (.newarray .boolean, 2) := by decide +kernel
theorem dX5_init_25 : decode cX5_init 25 = .ok (.putfield 18, 3) := by decide +kernel
theorem dX5_init_28 : decode cX5_init 28 = .ok (.return_, 1) := by decide +kernel
theorem dX5_add_0 : decode cX5_add 0 = .ok (.aload_n 0, 1) := by decide +kernel
theorem dX5_add_1 : decode cX5_add 1 = .ok (.getfield 22, 3) := by decide +kernel
theorem dX5_add_4 : decode cX5_add 4 = .ok (.bipush 6, 2) := by decide +kernel
theorem dX5_add_6 : decode cX5_add 6 = .ok (.if_icmp .lt 5, 3) := by decide +kernel
theorem dX5_add_9 : decode cX5_add 9 = .ok (.iconst 0, 1) := by decide +kernel
theorem dX5_add_10 : decode cX5_add 10 = .ok (.ireturn, 1) := by decide +kernel
theorem dX5_add_11 : decode cX5_add 11 = .ok (.aload_n 0, 1) := by decide +kernel
theorem dX5_add_12 : decode cX5_add 12 = .ok (.getfield 11, 3) := by decide +kernel
theorem dX5_add_15 : decode cX5_add 15 = .ok (.aload_n 0, 1) := by decide +kernel
theorem dX5_add_16 : decode cX5_add 16 = .ok (.getfield 22, 3) := by decide +kernel
theorem dX5_add_19 : decode cX5_add 19 = .ok (.iload_n 1, 1) := by decide +kernel
theorem dX5_add_20 : decode cX5_add 20 = .ok (.iastore, 1) := by decide +kernel
theorem dX5_add_21 : decode cX5_add 21 = .ok (.aload_n 0, 1) := by decide +kernel
theorem dX5_add_22 : decode cX5_add 22 = .ok (.getfield 15, 3) := by decide +kernel
theorem dX5_add_25 : decode cX5_add 25 = .ok (.aload_n 0, 1) := by decide +kernel
theorem dX5_add_26 : decode cX5_add 26 = .ok (.getfield 22, 3) := by decide +kernel
theorem dX5_add_29 : decode cX5_add 29 = .ok (.iload_n 2, 1) := by decide +kernel
theorem dX5_add_30 : decode cX5_add 30 = .ok (.iastore, 1) := by decide +kernel
theorem dX5_add_31 : decode cX5_add 31 = .ok (.aload_n 0, 1) := by decide +kernel
theorem dX5_add_32 : decode cX5_add 32 = .ok (.getfield 18, 3) := by decide +kernel
theorem dX5_add_35 : decode cX5_add 35 = .ok (.aload_n 0, 1) := by decide +kernel
theorem dX5_add_36 : decode cX5_add 36 = .ok (.getfield 22, 3) := by decide +kernel
theorem dX5_add_39 : decode cX5_add 39 = .ok (.iload_n 3, 1) := by decide +kernel
theorem dX5_add_40 : decode cX5_add 40 = .ok (.bastore, 1) := by decide +kernel
theorem dX5_add_41 : decode cX5_add 41 = .ok (.aload_n 0, 1) := by decide +kernel
theorem dX5_add_42 : decode cX5_add 42 = .ok (.dup, 1) := by decide +kernel
theorem dX5_add_43 : decode cX5_add 43 = .ok (.getfield 22, 3) := by decide +kernel
theorem dX5_add_46 : decode cX5_add 46 = .ok (.iconst 1, 1) := by decide +kernel
theorem dX5_add_47 : decode cX5_add 47 = .ok (.iadd, 1) := by decide +kernel
theorem dX5_add_48 : decode cX5_add 48 = .ok (.putfield 22, 3) := by decide +kernel
theorem dX5_add_51 : decode cX5_add 51 = .ok (.iconst 1, 1) := by decide +kernel
theorem dX5_add_52 : decode cX5_add 52 = .ok (.ireturn, 1) := by decide +kernel
theorem dX5_empty_0 : decode cX5_empty 0 = .ok (.aload_n 0, 1) := by decide +kernel
theorem dX5_empty_1 : decode cX5_empty 1 = .ok (.getfield 22, 3) := by decide +kernel
theorem dX5_empty_4 : decode cX5_empty 4 = .ok (.istore_n 1, 1) := by decide +kernel
theorem dX5_empty_5 : decode cX5_empty 5 = .ok (.aload_n 0, 1) := by decide +kernel
theorem dX5_empty_6 : decode cX5_empty 6 = .ok (.iconst 0, 1) := by decide +kernel
theorem dX5_empty_7 : decode cX5_empty 7 = .ok (.putfield 22, 3) := by decide +kernel
theorem dX5_empty_10 : decode cX5_empty 10 = .ok (.iload_n 1, 1) := by decide +kernel
theorem dX5_empty_11 : decode cX5_empty 11 = .ok (.ireturn, 1) := by decide +kernel
theorem dX5_comeTrueIn_0 : decode cX5_comeTrueIn 0 = .ok (.iconst 0, 1) := by decide +kernel
theorem dX5_comeTrueIn_1 : decode cX5_comeTrueIn 1 = .ok (.istore_n 2, 1) := by decide +kernel
theorem dX5_comeTrueIn_2 : decode cX5_comeTrueIn 2 = .ok (.iload_n 2, 1) := by decide +kernel
theorem dX5_comeTrueIn_3 : decode cX5_comeTrueIn 3 = .ok (.bipush 20, 2) := by decide +kernel
theorem dX5_comeTrueIn_5 : decode cX5_comeTrueIn 5 = .ok (.if_icmp .gt 68, 3) := by decide +kernel
theorem dX5_comeTrueIn_8 : decode cX5_comeTrueIn 8 = .ok (.iconst 0, 1) := by decide +kernel
theorem dX5_comeTrueIn_9 : decode cX5_comeTrueIn 9 = .ok (.istore_n 3, 1) := by decide +kernel
theorem dX5_comeTrueIn_10 : decode cX5_comeTrueIn 10 = .ok (.iload_n 3, 1) := by decide +kernel
theorem dX5_comeTrueIn_11 : decode cX5_comeTrueIn 11 = .ok (.aload_n 0, 1) := by decide +kernel
theorem dX5_comeTrueIn_12 : decode cX5_comeTrueIn 12 = .ok (.getfield 22, 3) := by decide +kernel
theorem dX5_comeTrueIn_15 : decode cX5_comeTrueIn 15 = .ok (.if_icmp .ge 46, 3) := by decide +kernel
theorem dX5_comeTrueIn_18 : decode cX5_comeTrueIn 18 = .ok (.iload_n 3, 1) := by decide +kernel
theorem dX5_comeTrueIn_19 : decode cX5_comeTrueIn 19 = .ok (.bipush 6, 2) := by decide +kernel
theorem dX5_comeTrueIn_21 : decode cX5_comeTrueIn 21 = .ok (.if_icmp .ge 40, 3) := by decide +kernel
theorem dX5_comeTrueIn_24 : decode cX5_comeTrueIn 24 = .ok (.aload_n 0, 1) := by decide +kernel
theorem dX5_comeTrueIn_25 : decode cX5_comeTrueIn 25 = .ok (.getfield 11, 3) := by decide +kernel
theorem dX5_comeTrueIn_28 : decode cX5_comeTrueIn 28 = .ok (.iload_n 3, 1) := by decide +kernel
theorem dX5_comeTrueIn_29 : decode cX5_comeTrueIn 29 = .ok (.iaload, 1) := by decide +kernel
theorem dX5_comeTrueIn_30 : decode cX5_comeTrueIn 30 = .ok (.iload_n 2, 1) := by decide +kernel
theorem dX5_comeTrueIn_31 : decode cX5_comeTrueIn 31 = .ok (.if_icmp .ne 24, 3) := by decide +kernel
theorem dX5_comeTrueIn_34 : decode cX5_comeTrueIn 34 = .ok (.aload_n 1, 1) := by decide +kernel
theorem dX5_comeTrueIn_35 : decode cX5_comeTrueIn 35 = .ok (.aload_n 0, 1) := by decide +kernel
theorem dX5_comeTrueIn_36 : decode cX5_comeTrueIn 36 = .ok (.getfield 15, 3) := by decide +kernel
theorem dX5_comeTrueIn_39 : decode cX5_comeTrueIn 39 = .ok (.iload_n 3, 1) := by decide +kernel
theorem dX5_comeTrueIn_40 : decode cX5_comeTrueIn 40 = .ok (.iaload, 1) := by decide +kernel
theorem dX5_comeTrueIn_41 : decode cX5_comeTrueIn 41 = .ok (.invokevirtual 26, 3) := by decide +kernel
theorem dX5_comeTrueIn_44 : decode cX5_comeTrueIn 44 = .ok (.aload_n 0, 1) := by decide +kernel
theorem dX5_comeTrueIn_45 : decode cX5_comeTrueIn 45 = .ok (.getfield 18, 3) := by decide +kernel
theorem dX5_comeTrueIn_48 : decode cX5_comeTrueIn 48 = .ok (.iload_n 3, 1) := by decide +kernel
theorem dX5_comeTrueIn_49 : decode cX5_comeTrueIn 49 = .ok (.baload, 1) := by decide +kernel
theorem dX5_comeTrueIn_50 : decode cX5_comeTrueIn 50 = .ok (.if_icmp .ne 5, 3) := by decide +kernel
theorem dX5_comeTrueIn_53 : decode cX5_comeTrueIn 53 = .ok (.iconst 0, 1) := by decide +kernel
theorem dX5_comeTrueIn_54 : decode cX5_comeTrueIn 54 = .ok (.ireturn, 1) := by decide +kernel
theorem dX5_comeTrueIn_55 : decode cX5_comeTrueIn 55 = .ok (.iinc 3 1, 3) := by decide +kernel
theorem dX5_comeTrueIn_58 : decode cX5_comeTrueIn 58 = .ok (.goto (-48), 3) := by decide +kernel
theorem dX5_comeTrueIn_61 : decode cX5_comeTrueIn 61 = .ok (.aload_n 1, 1) := by decide +kernel
theorem dX5_comeTrueIn_62 : decode cX5_comeTrueIn 62 = .ok (.iconst 1, 1) := by decide +kernel
theorem dX5_comeTrueIn_63 : decode cX5_comeTrueIn 63 = .ok (.invokevirtual 32, 3) := by decide +kernel
theorem dX5_comeTrueIn_66 : decode cX5_comeTrueIn 66 = .ok (.pop, 1) := by decide +kernel
theorem dX5_comeTrueIn_67 : decode cX5_comeTrueIn 67 = .ok (.iinc 2 1, 3) := by decide +kernel
theorem dX5_comeTrueIn_70 : decode cX5_comeTrueIn 70 = .ok (.goto (-68), 3) := by decide +kernel
theorem dX5_comeTrueIn_73 : decode cX5_comeTrueIn 73 = .ok (.iconst 1, 1) := by decide +kernel
theorem dX5_comeTrueIn_74 : decode cX5_comeTrueIn 74 = .ok (.ireturn, 1) := by decide +kernel
theorem dX6_init_0 : decode cX6_init 0 = .ok (.aload_n 0, 1) := by decide +kernel
theorem dX6_init_1 : decode cX6_init 1 = .ok (.invokespecial 3, 3) := by decide +kernel
theorem dX6_init_4 : decode cX6_init 4 = .ok (.aload_n 0, 1) := by decide +kernel
theorem dX6_init_5 : decode cX6_init 5 = .ok (.new 9, 3) := by decide +kernel
theorem dX6_init_8 : decode cX6_init 8 = .ok (.dup, 1) := by decide +kernel
theorem dX6_init_9 : decode cX6_init 9 = .ok (.invokespecial 11, 3) := by decide +kernel
theorem dX6_init_12 : decode cX6_init 12 = .ok (.putfield 12, 3) := by decide +kernel
theorem dX6_init_15 : decode cX6_init 15 = .ok (.aload_n 0, 1) := by decide +kernel
theorem dX6_init_16 : decode cX6_init 16 = .ok (.new 16, 3) := by decide +kernel
theorem dX6_init_19 : decode cX6_init 19 = .ok (.dup, 1) := by decide +kernel
theorem dX6_init_20 : decode cX6_init 20 = .ok (.invokespecial 18, 3) := by decide +kernel
theorem dX6_init_23 : decode cX6_init 23 = .ok (.putfield 19, 3) := by decide +kernel
theorem dX6_init_26 : decode cX6_init 26 = .ok (.aload_n 0, 1) := by decide +kernel
theorem dX6_init_27 : decode cX6_init 27 = .ok (.new 16, 3) := by decide +kernel
theorem dX6_init_30 : decode cX6_init 30 = .ok (.dup, 1) := by decide +kernel
theorem dX6_init_31 : decode cX6_init 31 = .ok (.invokespecial 18, 3) := by decide +kernel
theorem dX6_init_34 : decode cX6_init 34 = .ok (.putfield 23, 3) := by decide +kernel
theorem dX6_init_37 : decode cX6_init 37 = .ok (.aload_n 0, 1) := by decide +kernel
theorem dX6_init_38 : decode cX6_init 38 = .ok (.new 26, 3) := by decide +kernel
theorem dX6_init_41 : decode cX6_init 41 = .ok (.dup, 1) := by decide +kernel
theorem dX6_init_42 : decode cX6_init 42 = .ok (.bipush 8, 2) := by decide +kernel
theorem dX6_init_44 : decode cX6_init 44 = .ok (.invokespecial 28, 3) := by decide +kernel
theorem dX6_init_47 : decode cX6_init 47 = .ok (.putfield 31, 3) := by decide +kernel
theorem dX6_init_50 : decode cX6_init 50 = .ok (.aload_n 0, 1) := by decide +kernel
theorem dX6_init_51 : decode cX6_init 51 = .ok (.new 26, 3) := by decide +kernel
theorem dX6_init_54 : decode cX6_init 54 = .ok (.dup, 1) := by decide +kernel
theorem dX6_init_55 : decode cX6_init 55 = .ok (.iconst 2, 1) := by decide +kernel
theorem dX6_init_56 : decode cX6_init 56 = .ok (.invokespecial 28, 3) := by decide +kernel
theorem dX6_init_59 : decode cX6_init 59 = .ok (.putfield 35, 3) := by decide +kernel
theorem dX6_init_62 : decode cX6_init 62 = .ok (.aload_n 0, 1) := by decide +kernel
theorem dX6_init_63 : decode cX6_init 63 = .ok (.new 38, 3) := by decide +kernel
theorem dX6_init_66 : decode cX6_init 66 = .ok (.dup, 1) := by decide +kernel
theorem dX6_init_67 : decode cX6_init 67 = .ok (.invokespecial 40, 3) := by decide +kernel
theorem dX6_init_70 : decode cX6_init 70 = .ok (.putfield 41, 3) := by decide +kernel
theorem dX6_init_73 : decode cX6_init 73 = .ok (.aload_n 0, 1) := by decide +kernel
theorem dX6_init_74 : decode cX6_init 74 = .ok (.new 45, 3) := by decide +kernel
theorem dX6_init_77 : decode cX6_init 77 = .ok (.dup, 1) := by decide +kernel
theorem dX6_init_78 : decode cX6_init 78 = .ok (.invokespecial 47, 3) := by decide +kernel
theorem dX6_init_81 : decode cX6_init 81 = .ok (.putfield 48, 3) := by decide +kernel
theorem dX6_init_84 : decode cX6_init 84 = .ok (.aload_n 0, 1) := by decide +kernel
theorem dX6_init_85 : decode cX6_init 85 = .ok (.new 52, 3) := by decide +kernel
theorem dX6_init_88 : decode cX6_init 88 = .ok (.dup, 1) := by decide +kernel
theorem dX6_init_89 : decode cX6_init 89 = .ok (.invokespecial 54, 3) := by decide +kernel
theorem dX6_init_92 : decode cX6_init 92 = .ok (.putfield 55, 3) := by decide +kernel
theorem dX6_init_95 : decode cX6_init 95 = .ok (.iconst 0, 1) := by decide +kernel
theorem dX6_init_96 : decode cX6_init 96 = .ok (.istore_n 1, 1) := by decide +kernel
theorem dX6_init_97 : decode cX6_init 97 = .ok (.iload_n 1, 1) := by decide +kernel
theorem dX6_init_98 : decode cX6_init 98 = .ok (.ldc 59, 2) := by decide +kernel
theorem dX6_init_100 : decode cX6_init 100 = .ok (.invokevirtual 61, 3) := by decide +kernel
theorem dX6_init_103 : decode cX6_init 103 = .ok (.if_icmp .ge 23, 3) := by decide +kernel
theorem dX6_init_106 : decode cX6_init 106 = .ok (.aload_n 0, 1) := by decide +kernel
theorem dX6_init_107 : decode cX6_init 107 = .ok (.getfield 12, 3) := by decide +kernel
theorem dX6_init_110 : decode cX6_init 110 = .ok (.ldc 59, 2) := by decide +kernel
theorem dX6_init_112 : decode cX6_init 112 = .ok (.iload_n 1, 1) := by decide +kernel
theorem dX6_init_113 : decode cX6_init 113 = .ok (.invokevirtual 67, 3) := by decide +kernel
theorem dX6_init_116 : decode cX6_init 116 = .ok (.invokevirtual 71, 3) := by decide +kernel
theorem dX6_init_119 : decode cX6_init 119 = .ok (.pop, 1) := by decide +kernel
theorem dX6_init_120 : decode cX6_init 120 = .ok (.iinc 1 1, 3) := by decide +kernel
theorem dX6_init_123 : decode cX6_init 123 = .ok (.goto (-26), 3) := by decide +kernel
theorem dX6_init_126 : decode cX6_init 126 = .ok (.aload_n 0, 1) := by decide +kernel
theorem dX6_init_127 : decode cX6_init 127 = .ok (.getfield 12, 3) := by decide +kernel
theorem dX6_init_130 : decode cX6_init 130 = .ok (.aload_n 0, 1) := by decide +kernel
theorem dX6_init_131 : decode cX6_init 131 = .ok (.getfield 19, 3) := by decide +kernel
theorem dX6_init_134 : decode cX6_init 134 = .ok (.invokevirtual 75, 3) := by decide +kernel
theorem dX6_init_137 : decode cX6_init 137 = .ok (.pop, 1) := by decide +kernel
theorem dX6_init_138 : decode cX6_init 138 = .ok (.aload_n 0, 1) := by decide +kernel
theorem dX6_init_139 : decode cX6_init 139 = .ok (.getfield 12, 3) := by decide +kernel
theorem dX6_init_142 : decode cX6_init 142 = .ok (.invokevirtual 79, 3) := by decide +kernel
theorem dX6_init_145 : decode cX6_init 145 = .ok (.pop, 1) := by decide +kernel
theorem dX6_init_146 : decode cX6_init 146 = .ok (.return_, 1) := by decide +kernel
theorem dX6_write_0 : decode cX6_write 0 = .ok (.iload_n 1, 1) := by decide +kernel
theorem dX6_write_1 : decode cX6_write 1 = .ok (.bipush 32, 2) := by decide +kernel
theorem dX6_write_3 : decode cX6_write 3 = .ok (.if_icmp .lt 9, 3) := by decide +kernel
theorem dX6_write_6 : decode cX6_write 6 = .ok (.iload_n 1, 1) := by decide +kernel
theorem dX6_write_7 : decode cX6_write 7 = .ok (.bipush 126, 2) := by decide +kernel
theorem dX6_write_9 : decode cX6_write 9 = .ok (.if_icmp .le 5, 3) := by decide +kernel
theorem dX6_write_12 : decode cX6_write 12 = .ok (.iconst (-1), 1) := by decide +kernel
theorem dX6_write_13 : decode cX6_write 13 = .ok (.ireturn, 1) := by decide +kernel
theorem dX6_write_14 : decode cX6_write 14 = .ok (.aload_n 0, 1) := by decide +kernel
theorem dX6_write_15 : decode cX6_write 15 = .ok (.getfield 12, 3) := by decide +kernel
theorem dX6_write_18 : decode cX6_write 18 = .ok (.iload_n 1, 1) := by decide +kernel
theorem dX6_write_19 : decode cX6_write 19 = .ok (.invokevirtual 71, 3) := by decide +kernel
theorem dX6_write_22 : decode cX6_write 22 = .ok (.ifCond .eq 13, 3) := by decide +kernel
theorem dX6_write_25 : decode cX6_write 25 = .ok (.aload_n 0, 1) := by decide +kernel
theorem dX6_write_26 : decode cX6_write 26 = .ok (.getfield 12, 3) := by decide +kernel
theorem dX6_write_29 : decode cX6_write 29 = .ok (.getfield 82, 3) := by decide +kernel
theorem dX6_write_32 : decode cX6_write 32 = .ok (.goto 5, 3) := by decide +kernel
theorem dX6_write_35 : decode cX6_write 35 = .ok (.bipush (-3), 2) := by decide +kernel
theorem dX6_write_37 : decode cX6_write 37 = .ok (.ireturn, 1) := by decide +kernel
theorem dX6_wipe_0 : decode cX6_wipe 0 = .ok (.aload_n 0, 1) := by decide +kernel
theorem dX6_wipe_1 : decode cX6_wipe 1 = .ok (.getfield 12, 3) := by decide +kernel
theorem dX6_wipe_4 : decode cX6_wipe 4 = .ok (.invokevirtual 79, 3) := by decide +kernel
theorem dX6_wipe_7 : decode cX6_wipe 7 = .ok (.ireturn, 1) := by decide +kernel
theorem dX6_fault_0 : decode cX6_fault 0 = .ok (.aload_n 0, 1) := by decide +kernel
theorem dX6_fault_1 : decode cX6_fault 1 = .ok (.getfield 12, 3) := by decide +kernel
theorem dX6_fault_4 : decode cX6_fault 4 = .ok (.aload_n 0, 1) := by decide +kernel
theorem dX6_fault_5 : decode cX6_fault 5 = .ok (.getfield 23, 3) := by decide +kernel
theorem dX6_fault_8 : decode cX6_fault 8 = .ok (.invokevirtual 75, 3) := by decide +kernel
theorem dX6_fault_11 : decode cX6_fault 11 = .ok (.ireturn, 1) := by decide +kernel
theorem dX6_lay_0 : decode cX6_lay 0 = .ok (.aload_n 0, 1) := by decide +kernel
theorem dX6_lay_1 : decode cX6_lay 1 = .ok (.getfield 12, 3) := by decide +kernel
theorem dX6_lay_4 : decode cX6_lay 4 = .ok (.aload_n 0, 1) := by decide +kernel
theorem dX6_lay_5 : decode cX6_lay 5 = .ok (.getfield 23, 3) := by decide +kernel
theorem dX6_lay_8 : decode cX6_lay 8 = .ok (.invokevirtual 75, 3) := by decide +kernel
theorem dX6_lay_11 : decode cX6_lay 11 = .ok (.bipush (-4), 2) := by decide +kernel
theorem dX6_lay_13 : decode cX6_lay 13 = .ok (.if_icmp .ne 23, 3) := by decide +kernel
theorem dX6_lay_16 : decode cX6_lay 16 = .ok (.aload_n 0, 1) := by decide +kernel
theorem dX6_lay_17 : decode cX6_lay 17 = .ok (.getfield 23, 3) := by decide +kernel
theorem dX6_lay_20 : decode cX6_lay 20 = .ok (.getfield 85, 3) := by decide +kernel
theorem dX6_lay_23 : decode cX6_lay 23 = .ok (.ifCond .eq 13, 3) := by decide +kernel
theorem dX6_lay_26 : decode cX6_lay 26 = .ok (.aload_n 0, 1) := by decide +kernel
theorem dX6_lay_27 : decode cX6_lay 27 = .ok (.getfield 23, 3) := by decide +kernel
theorem dX6_lay_30 : decode cX6_lay 30 = .ok (.getfield 88, 3) := by decide +kernel
theorem dX6_lay_33 : decode cX6_lay 33 = .ok (.ifCond .ne 6, 3) := by decide +kernel
theorem dX6_lay_36 : decode cX6_lay 36 = .ok (.bipush (-2), 2) := by decide +kernel
theorem dX6_lay_38 : decode cX6_lay 38 = .ok (.ireturn, 1) := by decide +kernel
theorem dX6_lay_39 : decode cX6_lay 39 = .ok (.aload_n 0, 1) := by decide +kernel
theorem dX6_lay_40 : decode cX6_lay 40 = .ok (.getfield 19, 3) := by decide +kernel
theorem dX6_lay_43 : decode cX6_lay 43 = .ok (.aload_n 0, 1) := by decide +kernel
theorem dX6_lay_44 : decode cX6_lay 44 = .ok (.getfield 23, 3) := by decide +kernel
theorem dX6_lay_47 : decode cX6_lay 47 = .ok (.invokevirtual 91, 3) := by decide +kernel
theorem dX6_lay_50 : decode cX6_lay 50 = .ok (.aload_n 0, 1) := by decide +kernel
theorem dX6_lay_51 : decode cX6_lay 51 = .ok (.getfield 31, 3) := by decide +kernel
theorem dX6_lay_54 : decode cX6_lay 54 = .ok (.invokevirtual 95, 3) := by decide +kernel
theorem dX6_lay_57 : decode cX6_lay 57 = .ok (.aload_n 0, 1) := by decide +kernel
theorem dX6_lay_58 : decode cX6_lay 58 = .ok (.getfield 35, 3) := by decide +kernel
theorem dX6_lay_61 : decode cX6_lay 61 = .ok (.invokevirtual 95, 3) := by decide +kernel
theorem dX6_lay_64 : decode cX6_lay 64 = .ok (.aload_n 0, 1) := by decide +kernel
theorem dX6_lay_65 : decode cX6_lay 65 = .ok (.getfield 41, 3) := by decide +kernel
theorem dX6_lay_68 : decode cX6_lay 68 = .ok (.invokevirtual 97, 3) := by decide +kernel
theorem dX6_lay_71 : decode cX6_lay 71 = .ok (.pop, 1) := by decide +kernel
theorem dX6_lay_72 : decode cX6_lay 72 = .ok (.aload_n 0, 1) := by decide +kernel
theorem dX6_lay_73 : decode cX6_lay 73 = .ok (.getfield 19, 3) := by decide +kernel
theorem dX6_lay_76 : decode cX6_lay 76 = .ok (.getfield 88, 3) := by decide +kernel
theorem dX6_lay_79 : decode cX6_lay 79 = .ok (.ireturn, 1) := by decide +kernel
theorem dX6_plot_0 : decode cX6_plot 0 = .ok (.aload_n 0, 1) := by decide +kernel
theorem dX6_plot_1 : decode cX6_plot 1 = .ok (.getfield 19, 3) := by decide +kernel
theorem dX6_plot_4 : decode cX6_plot 4 = .ok (.iload_n 1, 1) := by decide +kernel
theorem dX6_plot_5 : decode cX6_plot 5 = .ok (.invokevirtual 98, 3) := by decide +kernel
theorem dX6_plot_8 : decode cX6_plot 8 = .ok (.ifCond .ne 5, 3) := by decide +kernel
theorem dX6_plot_11 : decode cX6_plot 11 = .ok (.iconst (-1), 1) := by decide +kernel
theorem dX6_plot_12 : decode cX6_plot 12 = .ok (.ireturn, 1) := by decide +kernel
theorem dX6_plot_13 : decode cX6_plot 13 = .ok (.iload_n 2, 1) := by decide +kernel
theorem dX6_plot_14 : decode cX6_plot 14 = .ok (.tableswitch 66 0 3 #[30, 39, 48, 57], 30) := by decide +kernel
theorem dX6_plot_44 : decode cX6_plot 44 = .ok (.aload_n 0, 1) := by decide +kernel
theorem dX6_plot_45 : decode cX6_plot 45 = .ok (.getfield 19, 3) := by decide +kernel
theorem dX6_plot_48 : decode cX6_plot 48 = .ok (.iload_n 1, 1) := by decide +kernel
theorem dX6_plot_49 : decode cX6_plot 49 = .ok (.invokevirtual 101, 3) := by decide +kernel
theorem dX6_plot_52 : decode cX6_plot 52 = .ok (.ireturn, 1) := by decide +kernel
theorem dX6_plot_53 : decode cX6_plot 53 = .ok (.aload_n 0, 1) := by decide +kernel
theorem dX6_plot_54 : decode cX6_plot 54 = .ok (.getfield 19, 3) := by decide +kernel
theorem dX6_plot_57 : decode cX6_plot 57 = .ok (.iload_n 1, 1) := by decide +kernel
theorem dX6_plot_58 : decode cX6_plot 58 = .ok (.invokevirtual 105, 3) := by decide +kernel
theorem dX6_plot_61 : decode cX6_plot 61 = .ok (.ireturn, 1) := by decide +kernel
theorem dX6_plot_62 : decode cX6_plot 62 = .ok (.aload_n 0, 1) := by decide +kernel
theorem dX6_plot_63 : decode cX6_plot 63 = .ok (.getfield 19, 3) := by decide +kernel
theorem dX6_plot_66 : decode cX6_plot 66 = .ok (.iload_n 1, 1) := by decide +kernel
theorem dX6_plot_67 : decode cX6_plot 67 = .ok (.invokevirtual 108, 3) := by decide +kernel
theorem dX6_plot_70 : decode cX6_plot 70 = .ok (.ireturn, 1) := by decide +kernel
theorem dX6_plot_71 : decode cX6_plot 71 = .ok (.aload_n 0, 1) := by decide +kernel
theorem dX6_plot_72 : decode cX6_plot 72 = .ok (.getfield 19, 3) := by decide +kernel
theorem dX6_plot_75 : decode cX6_plot 75 = .ok (.iload_n 1, 1) := by decide +kernel
theorem dX6_plot_76 : decode cX6_plot 76 = .ok (.invokevirtual 111, 3) := by decide +kernel
theorem dX6_plot_79 : decode cX6_plot 79 = .ok (.ireturn, 1) := by decide +kernel
theorem dX6_plot_80 : decode cX6_plot 80 = .ok (.iconst (-1), 1) := by decide +kernel
theorem dX6_plot_81 : decode cX6_plot 81 = .ok (.ireturn, 1) := by decide +kernel
theorem dX6_hour_0 : decode cX6_hour 0 = .ok (.aload_n 0, 1) := by decide +kernel
theorem dX6_hour_1 : decode cX6_hour 1 = .ok (.getfield 19, 3) := by decide +kernel
theorem dX6_hour_4 : decode cX6_hour 4 = .ok (.iload_n 1, 1) := by decide +kernel
theorem dX6_hour_5 : decode cX6_hour 5 = .ok (.invokevirtual 114, 3) := by decide +kernel
theorem dX6_hour_8 : decode cX6_hour 8 = .ok (.ifCond .ne 5, 3) := by decide +kernel
theorem dX6_hour_11 : decode cX6_hour 11 = .ok (.iconst (-1), 1) := by decide +kernel
theorem dX6_hour_12 : decode cX6_hour 12 = .ok (.ireturn, 1) := by decide +kernel
theorem dX6_hour_13 : decode cX6_hour 13 = .ok (.iload_n 2, 1) := by decide +kernel
theorem dX6_hour_14 : decode cX6_hour 14 = .ok (.tableswitch 111 0 4 #[34, 43, 52, 61, 86], 34) := by decide +kernel
theorem dX6_hour_48 : decode cX6_hour 48 = .ok (.aload_n 0, 1) := by decide +kernel
theorem dX6_hour_49 : decode cX6_hour 49 = .ok (.getfield 19, 3) := by decide +kernel
theorem dX6_hour_52 : decode cX6_hour 52 = .ok (.iload_n 1, 1) := by decide +kernel
theorem dX6_hour_53 : decode cX6_hour 53 = .ok (.invokevirtual 117, 3) := by decide +kernel
theorem dX6_hour_56 : decode cX6_hour 56 = .ok (.ireturn, 1) := by decide +kernel
theorem dX6_hour_57 : decode cX6_hour 57 = .ok (.aload_n 0, 1) := by decide +kernel
theorem dX6_hour_58 : decode cX6_hour 58 = .ok (.getfield 19, 3) := by decide +kernel
theorem dX6_hour_61 : decode cX6_hour 61 = .ok (.iload_n 1, 1) := by decide +kernel
theorem dX6_hour_62 : decode cX6_hour 62 = .ok (.invokevirtual 120, 3) := by decide +kernel
theorem dX6_hour_65 : decode cX6_hour 65 = .ok (.ireturn, 1) := by decide +kernel
theorem dX6_hour_66 : decode cX6_hour 66 = .ok (.aload_n 0, 1) := by decide +kernel
theorem dX6_hour_67 : decode cX6_hour 67 = .ok (.getfield 19, 3) := by decide +kernel
theorem dX6_hour_70 : decode cX6_hour 70 = .ok (.iload_n 1, 1) := by decide +kernel
theorem dX6_hour_71 : decode cX6_hour 71 = .ok (.invokevirtual 123, 3) := by decide +kernel
theorem dX6_hour_74 : decode cX6_hour 74 = .ok (.ireturn, 1) := by decide +kernel
theorem dX6_hour_75 : decode cX6_hour 75 = .ok (.aload_n 0, 1) := by decide +kernel
theorem dX6_hour_76 : decode cX6_hour 76 = .ok (.getfield 19, 3) := by decide +kernel
theorem dX6_hour_79 : decode cX6_hour 79 = .ok (.iload_n 1, 1) := by decide +kernel
theorem dX6_hour_80 : decode cX6_hour 80 = .ok (.invokevirtual 126, 3) := by decide +kernel
theorem dX6_hour_83 : decode cX6_hour 83 = .ok (.ifCond .eq 14, 3) := by decide +kernel
theorem dX6_hour_86 : decode cX6_hour 86 = .ok (.aload_n 0, 1) := by decide +kernel
theorem dX6_hour_87 : decode cX6_hour 87 = .ok (.getfield 19, 3) := by decide +kernel
theorem dX6_hour_90 : decode cX6_hour 90 = .ok (.iload_n 1, 1) := by decide +kernel
theorem dX6_hour_91 : decode cX6_hour 91 = .ok (.invokevirtual 129, 3) := by decide +kernel
theorem dX6_hour_94 : decode cX6_hour 94 = .ok (.goto 5, 3) := by decide +kernel
theorem dX6_hour_97 : decode cX6_hour 97 = .ok (.bipush (-4), 2) := by decide +kernel
theorem dX6_hour_99 : decode cX6_hour 99 = .ok (.ireturn, 1) := by decide +kernel
theorem dX6_hour_100 : decode cX6_hour 100 = .ok (.aload_n 0, 1) := by decide +kernel
theorem dX6_hour_101 : decode cX6_hour 101 = .ok (.getfield 19, 3) := by decide +kernel
theorem dX6_hour_104 : decode cX6_hour 104 = .ok (.iload_n 1, 1) := by decide +kernel
theorem dX6_hour_105 : decode cX6_hour 105 = .ok (.invokevirtual 126, 3) := by decide +kernel
theorem dX6_hour_108 : decode cX6_hour 108 = .ok (.ifCond .eq 14, 3) := by decide +kernel
theorem dX6_hour_111 : decode cX6_hour 111 = .ok (.aload_n 0, 1) := by decide +kernel
theorem dX6_hour_112 : decode cX6_hour 112 = .ok (.getfield 19, 3) := by decide +kernel
theorem dX6_hour_115 : decode cX6_hour 115 = .ok (.iload_n 1, 1) := by decide +kernel
theorem dX6_hour_116 : decode cX6_hour 116 = .ok (.invokevirtual 132, 3) := by decide +kernel
theorem dX6_hour_119 : decode cX6_hour 119 = .ok (.goto 5, 3) := by decide +kernel
theorem dX6_hour_122 : decode cX6_hour 122 = .ok (.bipush (-4), 2) := by decide +kernel
theorem dX6_hour_124 : decode cX6_hour 124 = .ok (.ireturn, 1) := by decide +kernel
theorem dX6_hour_125 : decode cX6_hour 125 = .ok (.iconst (-1), 1) := by decide +kernel
theorem dX6_hour_126 : decode cX6_hour 126 = .ok (.ireturn, 1) := by decide +kernel
theorem dX6_fits_0 : decode cX6_fits 0 = .ok (.aload_n 0, 1) := by decide +kernel
theorem dX6_fits_1 : decode cX6_fits 1 = .ok (.getfield 19, 3) := by decide +kernel
theorem dX6_fits_4 : decode cX6_fits 4 = .ok (.iload_n 1, 1) := by decide +kernel
theorem dX6_fits_5 : decode cX6_fits 5 = .ok (.invokevirtual 114, 3) := by decide +kernel
theorem dX6_fits_8 : decode cX6_fits 8 = .ok (.ifCond .eq 14, 3) := by decide +kernel
theorem dX6_fits_11 : decode cX6_fits 11 = .ok (.aload_n 0, 1) := by decide +kernel
theorem dX6_fits_12 : decode cX6_fits 12 = .ok (.getfield 19, 3) := by decide +kernel
theorem dX6_fits_15 : decode cX6_fits 15 = .ok (.iload_n 2, 1) := by decide +kernel
theorem dX6_fits_16 : decode cX6_fits 16 = .ok (.invokevirtual 98, 3) := by decide +kernel
theorem dX6_fits_19 : decode cX6_fits 19 = .ok (.ifCond .ne 5, 3) := by decide +kernel
theorem dX6_fits_22 : decode cX6_fits 22 = .ok (.iconst (-1), 1) := by decide +kernel
theorem dX6_fits_23 : decode cX6_fits 23 = .ok (.ireturn, 1) := by decide +kernel
theorem dX6_fits_24 : decode cX6_fits 24 = .ok (.aload_n 0, 1) := by decide +kernel
theorem dX6_fits_25 : decode cX6_fits 25 = .ok (.getfield 19, 3) := by decide +kernel
theorem dX6_fits_28 : decode cX6_fits 28 = .ok (.iload_n 1, 1) := by decide +kernel
theorem dX6_fits_29 : decode cX6_fits 29 = .ok (.iload_n 2, 1) := by decide +kernel
theorem dX6_fits_30 : decode cX6_fits 30 = .ok (.invokevirtual 135, 3) := by decide +kernel
theorem dX6_fits_33 : decode cX6_fits 33 = .ok (.ifCond .eq 7, 3) := by decide +kernel
theorem dX6_fits_36 : decode cX6_fits 36 = .ok (.iconst 1, 1) := by decide +kernel
theorem dX6_fits_37 : decode cX6_fits 37 = .ok (.goto 4, 3) := by decide +kernel
theorem dX6_fits_40 : decode cX6_fits 40 = .ok (.iconst 0, 1) := by decide +kernel
theorem dX6_fits_41 : decode cX6_fits 41 = .ok (.ireturn, 1) := by decide +kernel
theorem dX6_pass_0 : decode cX6_pass 0 = .ok (.iload_n 1, 1) := by decide +kernel
theorem dX6_pass_1 : decode cX6_pass 1 = .ok (.iconst 1, 1) := by decide +kernel
theorem dX6_pass_2 : decode cX6_pass 2 = .ok (.bipush 20, 2) := by decide +kernel
theorem dX6_pass_4 : decode cX6_pass 4 = .ok (.invokestatic 139, 3) := by decide +kernel
theorem dX6_pass_7 : decode cX6_pass 7 = .ok (.ifCond .ne 5, 3) := by decide +kernel
theorem dX6_pass_10 : decode cX6_pass 10 = .ok (.iconst (-1), 1) := by decide +kernel
theorem dX6_pass_11 : decode cX6_pass 11 = .ok (.ireturn, 1) := by decide +kernel
theorem dX6_pass_12 : decode cX6_pass 12 = .ok (.aload_n 0, 1) := by decide +kernel
theorem dX6_pass_13 : decode cX6_pass 13 = .ok (.getfield 19, 3) := by decide +kernel
theorem dX6_pass_16 : decode cX6_pass 16 = .ok (.getfield 143, 3) := by decide +kernel
theorem dX6_pass_19 : decode cX6_pass 19 = .ok (.iload_n 1, 1) := by decide +kernel
theorem dX6_pass_20 : decode cX6_pass 20 = .ok (.iadd, 1) := by decide +kernel
theorem dX6_pass_21 : decode cX6_pass 21 = .ok (.sipush 999, 3) := by decide +kernel
theorem dX6_pass_24 : decode cX6_pass 24 = .ok (.if_icmp .le 6, 3) := by decide +kernel
theorem dX6_pass_27 : decode cX6_pass 27 = .ok (.bipush (-2), 2) := by decide +kernel
theorem dX6_pass_29 : decode cX6_pass 29 = .ok (.ireturn, 1) := by decide +kernel
theorem dX6_pass_30 : decode cX6_pass 30 = .ok (.aload_n 0, 1) := by decide +kernel
theorem dX6_pass_31 : decode cX6_pass 31 = .ok (.getfield 31, 3) := by decide +kernel
theorem dX6_pass_34 : decode cX6_pass 34 = .ok (.aload_n 0, 1) := by decide +kernel
theorem dX6_pass_35 : decode cX6_pass 35 = .ok (.getfield 19, 3) := by decide +kernel
theorem dX6_pass_38 : decode cX6_pass 38 = .ok (.invokevirtual 146, 3) := by decide +kernel
theorem dX6_pass_41 : decode cX6_pass 41 = .ok (.aload_n 0, 1) := by decide +kernel
theorem dX6_pass_42 : decode cX6_pass 42 = .ok (.getfield 19, 3) := by decide +kernel
theorem dX6_pass_45 : decode cX6_pass 45 = .ok (.iload_n 1, 1) := by decide +kernel
theorem dX6_pass_46 : decode cX6_pass 46 = .ok (.invokevirtual 149, 3) := by decide +kernel
theorem dX6_pass_49 : decode cX6_pass 49 = .ok (.ireturn, 1) := by decide +kernel
theorem dX6_put_0 : decode cX6_put 0 = .ok (.aload_n 0, 1) := by decide +kernel
theorem dX6_put_1 : decode cX6_put 1 = .ok (.getfield 19, 3) := by decide +kernel
theorem dX6_put_4 : decode cX6_put 4 = .ok (.iload_n 1, 1) := by decide +kernel
theorem dX6_put_5 : decode cX6_put 5 = .ok (.invokevirtual 114, 3) := by decide +kernel
theorem dX6_put_8 : decode cX6_put 8 = .ok (.ifCond .eq 14, 3) := by decide +kernel
theorem dX6_put_11 : decode cX6_put 11 = .ok (.aload_n 0, 1) := by decide +kernel
theorem dX6_put_12 : decode cX6_put 12 = .ok (.getfield 19, 3) := by decide +kernel
theorem dX6_put_15 : decode cX6_put 15 = .ok (.iload_n 2, 1) := by decide +kernel
theorem dX6_put_16 : decode cX6_put 16 = .ok (.invokevirtual 98, 3) := by decide +kernel
theorem dX6_put_19 : decode cX6_put 19 = .ok (.ifCond .ne 5, 3) := by decide +kernel
theorem dX6_put_22 : decode cX6_put 22 = .ok (.iconst (-1), 1) := by decide +kernel
theorem dX6_put_23 : decode cX6_put 23 = .ok (.ireturn, 1) := by decide +kernel
theorem dX6_put_24 : decode cX6_put 24 = .ok (.aload_n 0, 1) := by decide +kernel
theorem dX6_put_25 : decode cX6_put 25 = .ok (.getfield 19, 3) := by decide +kernel
theorem dX6_put_28 : decode cX6_put 28 = .ok (.iload_n 1, 1) := by decide +kernel
theorem dX6_put_29 : decode cX6_put 29 = .ok (.iload_n 2, 1) := by decide +kernel
theorem dX6_put_30 : decode cX6_put 30 = .ok (.invokevirtual 152, 3) := by decide +kernel
theorem dX6_put_33 : decode cX6_put 33 = .ok (.ifCond .ne 6, 3) := by decide +kernel
theorem dX6_put_36 : decode cX6_put 36 = .ok (.bipush (-2), 2) := by decide +kernel
theorem dX6_put_38 : decode cX6_put 38 = .ok (.ireturn, 1) := by decide +kernel
theorem dX6_put_39 : decode cX6_put 39 = .ok (.aload_n 0, 1) := by decide +kernel
theorem dX6_put_40 : decode cX6_put 40 = .ok (.getfield 31, 3) := by decide +kernel
theorem dX6_put_43 : decode cX6_put 43 = .ok (.aload_n 0, 1) := by decide +kernel
theorem dX6_put_44 : decode cX6_put 44 = .ok (.getfield 19, 3) := by decide +kernel
theorem dX6_put_47 : decode cX6_put 47 = .ok (.invokevirtual 146, 3) := by decide +kernel
theorem dX6_put_50 : decode cX6_put 50 = .ok (.aload_n 0, 1) := by decide +kernel
theorem dX6_put_51 : decode cX6_put 51 = .ok (.getfield 19, 3) := by decide +kernel
theorem dX6_put_54 : decode cX6_put 54 = .ok (.iload_n 1, 1) := by decide +kernel
theorem dX6_put_55 : decode cX6_put 55 = .ok (.iload_n 2, 1) := by decide +kernel
theorem dX6_put_56 : decode cX6_put 56 = .ok (.invokevirtual 155, 3) := by decide +kernel
theorem dX6_put_59 : decode cX6_put 59 = .ok (.aload_n 0, 1) := by decide +kernel
theorem dX6_put_60 : decode cX6_put 60 = .ok (.getfield 19, 3) := by decide +kernel
theorem dX6_put_63 : decode cX6_put 63 = .ok (.iload_n 2, 1) := by decide +kernel
theorem dX6_put_64 : decode cX6_put 64 = .ok (.invokevirtual 105, 3) := by decide +kernel
theorem dX6_put_67 : decode cX6_put 67 = .ok (.ireturn, 1) := by decide +kernel
theorem dX6_up_0 : decode cX6_up 0 = .ok (.aload_n 0, 1) := by decide +kernel
theorem dX6_up_1 : decode cX6_up 1 = .ok (.getfield 19, 3) := by decide +kernel
theorem dX6_up_4 : decode cX6_up 4 = .ok (.iload_n 1, 1) := by decide +kernel
theorem dX6_up_5 : decode cX6_up 5 = .ok (.invokevirtual 114, 3) := by decide +kernel
theorem dX6_up_8 : decode cX6_up 8 = .ok (.ifCond .ne 5, 3) := by decide +kernel
theorem dX6_up_11 : decode cX6_up 11 = .ok (.iconst (-1), 1) := by decide +kernel
theorem dX6_up_12 : decode cX6_up 12 = .ok (.ireturn, 1) := by decide +kernel
theorem dX6_up_13 : decode cX6_up 13 = .ok (.aload_n 0, 1) := by decide +kernel
theorem dX6_up_14 : decode cX6_up 14 = .ok (.getfield 19, 3) := by decide +kernel
theorem dX6_up_17 : decode cX6_up 17 = .ok (.iload_n 1, 1) := by decide +kernel
theorem dX6_up_18 : decode cX6_up 18 = .ok (.invokevirtual 126, 3) := by decide +kernel
theorem dX6_up_21 : decode cX6_up 21 = .ok (.ifCond .ne 6, 3) := by decide +kernel
theorem dX6_up_24 : decode cX6_up 24 = .ok (.bipush (-2), 2) := by decide +kernel
theorem dX6_up_26 : decode cX6_up 26 = .ok (.ireturn, 1) := by decide +kernel
theorem dX6_up_27 : decode cX6_up 27 = .ok (.aload_n 0, 1) := by decide +kernel
theorem dX6_up_28 : decode cX6_up 28 = .ok (.getfield 31, 3) := by decide +kernel
theorem dX6_up_31 : decode cX6_up 31 = .ok (.aload_n 0, 1) := by decide +kernel
theorem dX6_up_32 : decode cX6_up 32 = .ok (.getfield 19, 3) := by decide +kernel
theorem dX6_up_35 : decode cX6_up 35 = .ok (.invokevirtual 146, 3) := by decide +kernel
theorem dX6_up_38 : decode cX6_up 38 = .ok (.aload_n 0, 1) := by decide +kernel
theorem dX6_up_39 : decode cX6_up 39 = .ok (.getfield 19, 3) := by decide +kernel
theorem dX6_up_42 : decode cX6_up 42 = .ok (.iload_n 1, 1) := by decide +kernel
theorem dX6_up_43 : decode cX6_up 43 = .ok (.invokevirtual 159, 3) := by decide +kernel
theorem dX6_up_46 : decode cX6_up 46 = .ok (.ireturn, 1) := by decide +kernel
theorem dX6_dig_0 : decode cX6_dig 0 = .ok (.aload_n 0, 1) := by decide +kernel
theorem dX6_dig_1 : decode cX6_dig 1 = .ok (.getfield 19, 3) := by decide +kernel
theorem dX6_dig_4 : decode cX6_dig 4 = .ok (.iload_n 1, 1) := by decide +kernel
theorem dX6_dig_5 : decode cX6_dig 5 = .ok (.invokevirtual 98, 3) := by decide +kernel
theorem dX6_dig_8 : decode cX6_dig 8 = .ok (.ifCond .ne 5, 3) := by decide +kernel
theorem dX6_dig_11 : decode cX6_dig 11 = .ok (.iconst (-1), 1) := by decide +kernel
theorem dX6_dig_12 : decode cX6_dig 12 = .ok (.ireturn, 1) := by decide +kernel
theorem dX6_dig_13 : decode cX6_dig 13 = .ok (.aload_n 0, 1) := by decide +kernel
theorem dX6_dig_14 : decode cX6_dig 14 = .ok (.getfield 19, 3) := by decide +kernel
theorem dX6_dig_17 : decode cX6_dig 17 = .ok (.iload_n 1, 1) := by decide +kernel
theorem dX6_dig_18 : decode cX6_dig 18 = .ok (.invokevirtual 101, 3) := by decide +kernel
theorem dX6_dig_21 : decode cX6_dig 21 = .ok (.bipush 9, 2) := by decide +kernel
theorem dX6_dig_23 : decode cX6_dig 23 = .ok (.if_icmp .lt 6, 3) := by decide +kernel
theorem dX6_dig_26 : decode cX6_dig 26 = .ok (.bipush (-2), 2) := by decide +kernel
theorem dX6_dig_28 : decode cX6_dig 28 = .ok (.ireturn, 1) := by decide +kernel
theorem dX6_dig_29 : decode cX6_dig 29 = .ok (.aload_n 0, 1) := by decide +kernel
theorem dX6_dig_30 : decode cX6_dig 30 = .ok (.getfield 31, 3) := by decide +kernel
theorem dX6_dig_33 : decode cX6_dig 33 = .ok (.aload_n 0, 1) := by decide +kernel
theorem dX6_dig_34 : decode cX6_dig 34 = .ok (.getfield 19, 3) := by decide +kernel
theorem dX6_dig_37 : decode cX6_dig 37 = .ok (.invokevirtual 146, 3) := by decide +kernel
theorem dX6_dig_40 : decode cX6_dig 40 = .ok (.aload_n 0, 1) := by decide +kernel
theorem dX6_dig_41 : decode cX6_dig 41 = .ok (.getfield 19, 3) := by decide +kernel
theorem dX6_dig_44 : decode cX6_dig 44 = .ok (.iload_n 1, 1) := by decide +kernel
theorem dX6_dig_45 : decode cX6_dig 45 = .ok (.invokevirtual 162, 3) := by decide +kernel
theorem dX6_dig_48 : decode cX6_dig 48 = .ok (.aload_n 0, 1) := by decide +kernel
theorem dX6_dig_49 : decode cX6_dig 49 = .ok (.getfield 19, 3) := by decide +kernel
theorem dX6_dig_52 : decode cX6_dig 52 = .ok (.iload_n 1, 1) := by decide +kernel
theorem dX6_dig_53 : decode cX6_dig 53 = .ok (.invokevirtual 101, 3) := by decide +kernel
theorem dX6_dig_56 : decode cX6_dig 56 = .ok (.ireturn, 1) := by decide +kernel
theorem dX6_undo_0 : decode cX6_undo 0 = .ok (.aload_n 0, 1) := by decide +kernel
theorem dX6_undo_1 : decode cX6_undo 1 = .ok (.getfield 31, 3) := by decide +kernel
theorem dX6_undo_4 : decode cX6_undo 4 = .ok (.aload_n 0, 1) := by decide +kernel
theorem dX6_undo_5 : decode cX6_undo 5 = .ok (.getfield 19, 3) := by decide +kernel
theorem dX6_undo_8 : decode cX6_undo 8 = .ok (.invokevirtual 165, 3) := by decide +kernel
theorem dX6_undo_11 : decode cX6_undo 11 = .ok (.ifCond .eq 13, 3) := by decide +kernel
theorem dX6_undo_14 : decode cX6_undo 14 = .ok (.aload_n 0, 1) := by decide +kernel
theorem dX6_undo_15 : decode cX6_undo 15 = .ok (.getfield 31, 3) := by decide +kernel
theorem dX6_undo_18 : decode cX6_undo 18 = .ok (.getfield 169, 3) := by decide +kernel
theorem dX6_undo_21 : decode cX6_undo 21 = .ok (.goto 5, 3) := by decide +kernel
theorem dX6_undo_24 : decode cX6_undo 24 = .ok (.bipush (-2), 2) := by decide +kernel
theorem dX6_undo_26 : decode cX6_undo 26 = .ok (.ireturn, 1) := by decide +kernel
theorem dX6_out_0 : decode cX6_out 0 = .ok (.aload_n 0, 1) := by decide +kernel
theorem dX6_out_1 : decode cX6_out 1 = .ok (.getfield 19, 3) := by decide +kernel
theorem dX6_out_4 : decode cX6_out 4 = .ok (.iload_n 1, 1) := by decide +kernel
theorem dX6_out_5 : decode cX6_out 5 = .ok (.invokevirtual 114, 3) := by decide +kernel
theorem dX6_out_8 : decode cX6_out 8 = .ok (.ifCond .ne 5, 3) := by decide +kernel
theorem dX6_out_11 : decode cX6_out 11 = .ok (.iconst (-1), 1) := by decide +kernel
theorem dX6_out_12 : decode cX6_out 12 = .ok (.ireturn, 1) := by decide +kernel
theorem dX6_out_13 : decode cX6_out 13 = .ok (.aload_n 0, 1) := by decide +kernel
theorem dX6_out_14 : decode cX6_out 14 = .ok (.getfield 23, 3) := by decide +kernel
theorem dX6_out_17 : decode cX6_out 17 = .ok (.aload_n 0, 1) := by decide +kernel
theorem dX6_out_18 : decode cX6_out 18 = .ok (.getfield 19, 3) := by decide +kernel
theorem dX6_out_21 : decode cX6_out 21 = .ok (.invokevirtual 91, 3) := by decide +kernel
theorem dX6_out_24 : decode cX6_out 24 = .ok (.iconst 0, 1) := by decide +kernel
theorem dX6_out_25 : decode cX6_out 25 = .ok (.istore_n 2, 1) := by decide +kernel
theorem dX6_out_26 : decode cX6_out 26 = .ok (.iload_n 2, 1) := by decide +kernel
theorem dX6_out_27 : decode cX6_out 27 = .ok (.bipush 60, 2) := by decide +kernel
theorem dX6_out_29 : decode cX6_out 29 = .ok (.if_icmp .gt 31, 3) := by decide +kernel
theorem dX6_out_32 : decode cX6_out 32 = .ok (.aload_n 0, 1) := by decide +kernel
theorem dX6_out_33 : decode cX6_out 33 = .ok (.getfield 23, 3) := by decide +kernel
theorem dX6_out_36 : decode cX6_out 36 = .ok (.iload_n 1, 1) := by decide +kernel
theorem dX6_out_37 : decode cX6_out 37 = .ok (.invokevirtual 126, 3) := by decide +kernel
theorem dX6_out_40 : decode cX6_out 40 = .ok (.ifCond .ne 5, 3) := by decide +kernel
theorem dX6_out_43 : decode cX6_out 43 = .ok (.iload_n 2, 1) := by decide +kernel
theorem dX6_out_44 : decode cX6_out 44 = .ok (.ireturn, 1) := by decide +kernel
theorem dX6_out_45 : decode cX6_out 45 = .ok (.aload_n 0, 1) := by decide +kernel
theorem dX6_out_46 : decode cX6_out 46 = .ok (.getfield 23, 3) := by decide +kernel
theorem dX6_out_49 : decode cX6_out 49 = .ok (.iconst 1, 1) := by decide +kernel
theorem dX6_out_50 : decode cX6_out 50 = .ok (.invokevirtual 149, 3) := by decide +kernel
theorem dX6_out_53 : decode cX6_out 53 = .ok (.pop, 1) := by decide +kernel
theorem dX6_out_54 : decode cX6_out 54 = .ok (.iinc 2 1, 3) := by decide +kernel
theorem dX6_out_57 : decode cX6_out 57 = .ok (.goto (-31), 3) := by decide +kernel
theorem dX6_out_60 : decode cX6_out 60 = .ok (.bipush (-4), 2) := by decide +kernel
theorem dX6_out_62 : decode cX6_out 62 = .ok (.ireturn, 1) := by decide +kernel
theorem dX6_behind_0 : decode cX6_behind 0 = .ok (.iload_n 1, 1) := by decide +kernel
theorem dX6_behind_1 : decode cX6_behind 1 = .ok (.iconst 0, 1) := by decide +kernel
theorem dX6_behind_2 : decode cX6_behind 2 = .ok (.bipush 60, 2) := by decide +kernel
theorem dX6_behind_4 : decode cX6_behind 4 = .ok (.invokestatic 139, 3) := by decide +kernel
theorem dX6_behind_7 : decode cX6_behind 7 = .ok (.ifCond .eq 14, 3) := by decide +kernel
theorem dX6_behind_10 : decode cX6_behind 10 = .ok (.aload_n 0, 1) := by decide +kernel
theorem dX6_behind_11 : decode cX6_behind 11 = .ok (.getfield 19, 3) := by decide +kernel
theorem dX6_behind_14 : decode cX6_behind 14 = .ok (.iload_n 2, 1) := by decide +kernel
theorem dX6_behind_15 : decode cX6_behind 15 = .ok (.invokevirtual 114, 3) := by decide +kernel
theorem dX6_behind_18 : decode cX6_behind 18 = .ok (.ifCond .ne 5, 3) := by decide +kernel
theorem dX6_behind_21 : decode cX6_behind 21 = .ok (.iconst (-1), 1) := by decide +kernel
theorem dX6_behind_22 : decode cX6_behind 22 = .ok (.ireturn, 1) := by decide +kernel
theorem dX6_behind_23 : decode cX6_behind 23 = .ok (.aload_n 0, 1) := by decide +kernel
theorem dX6_behind_24 : decode cX6_behind 24 = .ok (.getfield 23, 3) := by decide +kernel
theorem dX6_behind_27 : decode cX6_behind 27 = .ok (.aload_n 0, 1) := by decide +kernel
theorem dX6_behind_28 : decode cX6_behind 28 = .ok (.getfield 19, 3) := by decide +kernel
theorem dX6_behind_31 : decode cX6_behind 31 = .ok (.invokevirtual 91, 3) := by decide +kernel
theorem dX6_behind_34 : decode cX6_behind 34 = .ok (.aload_n 0, 1) := by decide +kernel
theorem dX6_behind_35 : decode cX6_behind 35 = .ok (.getfield 23, 3) := by decide +kernel
theorem dX6_behind_38 : decode cX6_behind 38 = .ok (.iload_n 1, 1) := by decide +kernel
theorem dX6_behind_39 : decode cX6_behind 39 = .ok (.invokevirtual 149, 3) := by decide +kernel
theorem dX6_behind_42 : decode cX6_behind 42 = .ok (.pop, 1) := by decide +kernel
theorem dX6_behind_43 : decode cX6_behind 43 = .ok (.aload_n 0, 1) := by decide +kernel
theorem dX6_behind_44 : decode cX6_behind 44 = .ok (.getfield 23, 3) := by decide +kernel
theorem dX6_behind_47 : decode cX6_behind 47 = .ok (.iload_n 2, 1) := by decide +kernel
theorem dX6_behind_48 : decode cX6_behind 48 = .ok (.invokevirtual 123, 3) := by decide +kernel
theorem dX6_behind_51 : decode cX6_behind 51 = .ok (.ireturn, 1) := by decide +kernel
theorem dX6_above_0 : decode cX6_above 0 = .ok (.aload_n 0, 1) := by decide +kernel
theorem dX6_above_1 : decode cX6_above 1 = .ok (.getfield 19, 3) := by decide +kernel
theorem dX6_above_4 : decode cX6_above 4 = .ok (.iload_n 1, 1) := by decide +kernel
theorem dX6_above_5 : decode cX6_above 5 = .ok (.invokevirtual 114, 3) := by decide +kernel
theorem dX6_above_8 : decode cX6_above 8 = .ok (.ifCond .eq 14, 3) := by decide +kernel
theorem dX6_above_11 : decode cX6_above 11 = .ok (.aload_n 0, 1) := by decide +kernel
theorem dX6_above_12 : decode cX6_above 12 = .ok (.getfield 19, 3) := by decide +kernel
theorem dX6_above_15 : decode cX6_above 15 = .ok (.iload_n 1, 1) := by decide +kernel
theorem dX6_above_16 : decode cX6_above 16 = .ok (.invokevirtual 172, 3) := by decide +kernel
theorem dX6_above_19 : decode cX6_above 19 = .ok (.goto 4, 3) := by decide +kernel
theorem dX6_above_22 : decode cX6_above 22 = .ok (.iconst (-1), 1) := by decide +kernel
theorem dX6_above_23 : decode cX6_above 23 = .ok (.ireturn, 1) := by decide +kernel
theorem dX6_packs_0 : decode cX6_packs 0 = .ok (.iload_n 1, 1) := by decide +kernel
theorem dX6_packs_1 : decode cX6_packs 1 = .ok (.iconst (-1), 1) := by decide +kernel
theorem dX6_packs_2 : decode cX6_packs 2 = .ok (.if_icmp .eq 16, 3) := by decide +kernel
theorem dX6_packs_5 : decode cX6_packs 5 = .ok (.aload_n 0, 1) := by decide +kernel
theorem dX6_packs_6 : decode cX6_packs 6 = .ok (.getfield 19, 3) := by decide +kernel
theorem dX6_packs_9 : decode cX6_packs 9 = .ok (.iload_n 1, 1) := by decide +kernel
theorem dX6_packs_10 : decode cX6_packs 10 = .ok (.invokevirtual 114, 3) := by decide +kernel
theorem dX6_packs_13 : decode cX6_packs 13 = .ok (.ifCond .ne 5, 3) := by decide +kernel
theorem dX6_packs_16 : decode cX6_packs 16 = .ok (.iconst (-1), 1) := by decide +kernel
theorem dX6_packs_17 : decode cX6_packs 17 = .ok (.ireturn, 1) := by decide +kernel
theorem dX6_packs_18 : decode cX6_packs 18 = .ok (.aload_n 0, 1) := by decide +kernel
theorem dX6_packs_19 : decode cX6_packs 19 = .ok (.getfield 48, 3) := by decide +kernel
theorem dX6_packs_22 : decode cX6_packs 22 = .ok (.aload_n 0, 1) := by decide +kernel
theorem dX6_packs_23 : decode cX6_packs 23 = .ok (.getfield 19, 3) := by decide +kernel
theorem dX6_packs_26 : decode cX6_packs 26 = .ok (.iconst (-1), 1) := by decide +kernel
theorem dX6_packs_27 : decode cX6_packs 27 = .ok (.invokevirtual 175, 3) := by decide +kernel
theorem dX6_packs_30 : decode cX6_packs 30 = .ok (.istore_n 2, 1) := by decide +kernel
theorem dX6_packs_31 : decode cX6_packs 31 = .ok (.iload_n 1, 1) := by decide +kernel
theorem dX6_packs_32 : decode cX6_packs 32 = .ok (.iconst (-1), 1) := by decide +kernel
theorem dX6_packs_33 : decode cX6_packs 33 = .ok (.if_icmp .ne 7, 3) := by decide +kernel
theorem dX6_packs_36 : decode cX6_packs 36 = .ok (.iload_n 2, 1) := by decide +kernel
theorem dX6_packs_37 : decode cX6_packs 37 = .ok (.goto 11, 3) := by decide +kernel
theorem dX6_packs_40 : decode cX6_packs 40 = .ok (.aload_n 0, 1) := by decide +kernel
theorem dX6_packs_41 : decode cX6_packs 41 = .ok (.getfield 48, 3) := by decide +kernel
theorem dX6_packs_44 : decode cX6_packs 44 = .ok (.iload_n 1, 1) := by decide +kernel
theorem dX6_packs_45 : decode cX6_packs 45 = .ok (.invokevirtual 179, 3) := by decide +kernel
theorem dX6_packs_48 : decode cX6_packs 48 = .ok (.ireturn, 1) := by decide +kernel
theorem dX6_stir_0 : decode cX6_stir 0 = .ok (.iload_n 1, 1) := by decide +kernel
theorem dX6_stir_1 : decode cX6_stir 1 = .ok (.ifCond .lt 14, 3) := by decide +kernel
theorem dX6_stir_4 : decode cX6_stir 4 = .ok (.iload_n 1, 1) := by decide +kernel
theorem dX6_stir_5 : decode cX6_stir 5 = .ok (.aload_n 0, 1) := by decide +kernel
theorem dX6_stir_6 : decode cX6_stir 6 = .ok (.getfield 19, 3) := by decide +kernel
theorem dX6_stir_9 : decode cX6_stir 9 = .ok (.invokevirtual 180, 3) := by decide +kernel
theorem dX6_stir_12 : decode cX6_stir 12 = .ok (.if_icmp .lt 5, 3) := by decide +kernel
theorem dX6_stir_15 : decode cX6_stir 15 = .ok (.iconst (-1), 1) := by decide +kernel
theorem dX6_stir_16 : decode cX6_stir 16 = .ok (.ireturn, 1) := by decide +kernel
theorem dX6_stir_17 : decode cX6_stir 17 = .ok (.aload_n 0, 1) := by decide +kernel
theorem dX6_stir_18 : decode cX6_stir 18 = .ok (.getfield 19, 3) := by decide +kernel
theorem dX6_stir_21 : decode cX6_stir 21 = .ok (.iload_n 1, 1) := by decide +kernel
theorem dX6_stir_22 : decode cX6_stir 22 = .ok (.invokevirtual 183, 3) := by decide +kernel
theorem dX6_stir_25 : decode cX6_stir 25 = .ok (.ifCond .eq 14, 3) := by decide +kernel
theorem dX6_stir_28 : decode cX6_stir 28 = .ok (.aload_n 0, 1) := by decide +kernel
theorem dX6_stir_29 : decode cX6_stir 29 = .ok (.getfield 19, 3) := by decide +kernel
theorem dX6_stir_32 : decode cX6_stir 32 = .ok (.iload_n 1, 1) := by decide +kernel
theorem dX6_stir_33 : decode cX6_stir 33 = .ok (.invokevirtual 186, 3) := by decide +kernel
theorem dX6_stir_36 : decode cX6_stir 36 = .ok (.goto 5, 3) := by decide +kernel
theorem dX6_stir_39 : decode cX6_stir 39 = .ok (.bipush (-2), 2) := by decide +kernel
theorem dX6_stir_41 : decode cX6_stir 41 = .ok (.ireturn, 1) := by decide +kernel
theorem dX6_cheap_0 : decode cX6_cheap 0 = .ok (.iload_n 1, 1) := by decide +kernel
theorem dX6_cheap_1 : decode cX6_cheap 1 = .ok (.iconst 1, 1) := by decide +kernel
theorem dX6_cheap_2 : decode cX6_cheap 2 = .ok (.sipush 140, 3) := by decide +kernel
theorem dX6_cheap_5 : decode cX6_cheap 5 = .ok (.invokestatic 139, 3) := by decide +kernel
theorem dX6_cheap_8 : decode cX6_cheap 8 = .ok (.ifCond .eq 12, 3) := by decide +kernel
theorem dX6_cheap_11 : decode cX6_cheap 11 = .ok (.iload_n 2, 1) := by decide +kernel
theorem dX6_cheap_12 : decode cX6_cheap 12 = .ok (.iconst 0, 1) := by decide +kernel
theorem dX6_cheap_13 : decode cX6_cheap 13 = .ok (.iconst 1, 1) := by decide +kernel
theorem dX6_cheap_14 : decode cX6_cheap 14 = .ok (.invokestatic 139, 3) := by decide +kernel
theorem dX6_cheap_17 : decode cX6_cheap 17 = .ok (.ifCond .ne 5, 3) := by decide +kernel
theorem dX6_cheap_20 : decode cX6_cheap 20 = .ok (.iconst (-1), 1) := by decide +kernel
theorem dX6_cheap_21 : decode cX6_cheap 21 = .ok (.ireturn, 1) := by decide +kernel
theorem dX6_cheap_22 : decode cX6_cheap 22 = .ok (.aload_n 0, 1) := by decide +kernel
theorem dX6_cheap_23 : decode cX6_cheap 23 = .ok (.getfield 19, 3) := by decide +kernel
theorem dX6_cheap_26 : decode cX6_cheap 26 = .ok (.iload_n 1, 1) := by decide +kernel
theorem dX6_cheap_27 : decode cX6_cheap 27 = .ok (.invokevirtual 189, 3) := by decide +kernel
theorem dX6_cheap_30 : decode cX6_cheap 30 = .ok (.istore_n 3, 1) := by decide +kernel
theorem dX6_cheap_31 : decode cX6_cheap 31 = .ok (.iload_n 3, 1) := by decide +kernel
theorem dX6_cheap_32 : decode cX6_cheap 32 = .ok (.ifCond .ne 6, 3) := by decide +kernel
theorem dX6_cheap_35 : decode cX6_cheap 35 = .ok (.bipush (-4), 2) := by decide +kernel
theorem dX6_cheap_37 : decode cX6_cheap 37 = .ok (.ireturn, 1) := by decide +kernel
theorem dX6_cheap_38 : decode cX6_cheap 38 = .ok (.iload_n 2, 1) := by decide +kernel
theorem dX6_cheap_39 : decode cX6_cheap 39 = .ok (.ifCond .ne 7, 3) := by decide +kernel
theorem dX6_cheap_42 : decode cX6_cheap 42 = .ok (.iload_n 3, 1) := by decide +kernel
theorem dX6_cheap_43 : decode cX6_cheap 43 = .ok (.goto 11, 3) := by decide +kernel
theorem dX6_cheap_46 : decode cX6_cheap 46 = .ok (.aload_n 0, 1) := by decide +kernel
theorem dX6_cheap_47 : decode cX6_cheap 47 = .ok (.getfield 19, 3) := by decide +kernel
theorem dX6_cheap_50 : decode cX6_cheap 50 = .ok (.iload_n 3, 1) := by decide +kernel
theorem dX6_cheap_51 : decode cX6_cheap 51 = .ok (.invokevirtual 186, 3) := by decide +kernel
theorem dX6_cheap_54 : decode cX6_cheap 54 = .ok (.ireturn, 1) := by decide +kernel
theorem dX6_deeper_0 : decode cX6_deeper 0 = .ok (.iload_n 1, 1) := by decide +kernel
theorem dX6_deeper_1 : decode cX6_deeper 1 = .ok (.iconst 0, 1) := by decide +kernel
theorem dX6_deeper_2 : decode cX6_deeper 2 = .ok (.iconst 1, 1) := by decide +kernel
theorem dX6_deeper_3 : decode cX6_deeper 3 = .ok (.invokestatic 139, 3) := by decide +kernel
theorem dX6_deeper_6 : decode cX6_deeper 6 = .ok (.ifCond .ne 5, 3) := by decide +kernel
theorem dX6_deeper_9 : decode cX6_deeper 9 = .ok (.iconst (-1), 1) := by decide +kernel
theorem dX6_deeper_10 : decode cX6_deeper 10 = .ok (.ireturn, 1) := by decide +kernel
theorem dX6_deeper_11 : decode cX6_deeper 11 = .ok (.bipush (-4), 2) := by decide +kernel
theorem dX6_deeper_13 : decode cX6_deeper 13 = .ok (.istore_n 2, 1) := by decide +kernel
theorem dX6_deeper_14 : decode cX6_deeper 14 = .ok (.iconst (-1), 1) := by decide +kernel
theorem dX6_deeper_15 : decode cX6_deeper 15 = .ok (.istore_n 3, 1) := by decide +kernel
theorem dX6_deeper_16 : decode cX6_deeper 16 = .ok (.iconst 0, 1) := by decide +kernel
theorem dX6_deeper_17 : decode cX6_deeper 17 = .ok (.istore 4, 2) := by decide +kernel
theorem dX6_deeper_19 : decode cX6_deeper 19 = .ok (.iload 4, 2) := by decide +kernel
theorem dX6_deeper_21 : decode cX6_deeper 21 = .ok (.aload_n 0, 1) := by decide +kernel
theorem dX6_deeper_22 : decode cX6_deeper 22 = .ok (.getfield 19, 3) := by decide +kernel
theorem dX6_deeper_25 : decode cX6_deeper 25 = .ok (.getfield 85, 3) := by decide +kernel
theorem dX6_deeper_28 : decode cX6_deeper 28 = .ok (.if_icmp .ge 69, 3) := by decide +kernel
theorem dX6_deeper_31 : decode cX6_deeper 31 = .ok (.aload_n 0, 1) := by decide +kernel
theorem dX6_deeper_32 : decode cX6_deeper 32 = .ok (.getfield 19, 3) := by decide +kernel
theorem dX6_deeper_35 : decode cX6_deeper 35 = .ok (.iload 4, 2) := by decide +kernel
theorem dX6_deeper_37 : decode cX6_deeper 37 = .ok (.invokevirtual 101, 3) := by decide +kernel
theorem dX6_deeper_40 : decode cX6_deeper 40 = .ok (.bipush 9, 2) := by decide +kernel
theorem dX6_deeper_42 : decode cX6_deeper 42 = .ok (.if_icmp .ge 49, 3) := by decide +kernel
theorem dX6_deeper_45 : decode cX6_deeper 45 = .ok (.aload_n 0, 1) := by decide +kernel
theorem dX6_deeper_46 : decode cX6_deeper 46 = .ok (.getfield 23, 3) := by decide +kernel
theorem dX6_deeper_49 : decode cX6_deeper 49 = .ok (.aload_n 0, 1) := by decide +kernel
theorem dX6_deeper_50 : decode cX6_deeper 50 = .ok (.getfield 19, 3) := by decide +kernel
theorem dX6_deeper_53 : decode cX6_deeper 53 = .ok (.invokevirtual 91, 3) := by decide +kernel
theorem dX6_deeper_56 : decode cX6_deeper 56 = .ok (.aload_n 0, 1) := by decide +kernel
theorem dX6_deeper_57 : decode cX6_deeper 57 = .ok (.getfield 23, 3) := by decide +kernel
theorem dX6_deeper_60 : decode cX6_deeper 60 = .ok (.iload 4, 2) := by decide +kernel
theorem dX6_deeper_62 : decode cX6_deeper 62 = .ok (.invokevirtual 162, 3) := by decide +kernel
theorem dX6_deeper_65 : decode cX6_deeper 65 = .ok (.aload_n 0, 1) := by decide +kernel
theorem dX6_deeper_66 : decode cX6_deeper 66 = .ok (.getfield 48, 3) := by decide +kernel
theorem dX6_deeper_69 : decode cX6_deeper 69 = .ok (.aload_n 0, 1) := by decide +kernel
theorem dX6_deeper_70 : decode cX6_deeper 70 = .ok (.getfield 23, 3) := by decide +kernel
theorem dX6_deeper_73 : decode cX6_deeper 73 = .ok (.iload_n 3, 1) := by decide +kernel
theorem dX6_deeper_74 : decode cX6_deeper 74 = .ok (.invokevirtual 175, 3) := by decide +kernel
theorem dX6_deeper_77 : decode cX6_deeper 77 = .ok (.istore 5, 2) := by decide +kernel
theorem dX6_deeper_79 : decode cX6_deeper 79 = .ok (.iload 5, 2) := by decide +kernel
theorem dX6_deeper_81 : decode cX6_deeper 81 = .ok (.iload_n 3, 1) := by decide +kernel
theorem dX6_deeper_82 : decode cX6_deeper 82 = .ok (.if_icmp .le 9, 3) := by decide +kernel
theorem dX6_deeper_85 : decode cX6_deeper 85 = .ok (.iload 5, 2) := by decide +kernel
theorem dX6_deeper_87 : decode cX6_deeper 87 = .ok (.istore_n 3, 1) := by decide +kernel
theorem dX6_deeper_88 : decode cX6_deeper 88 = .ok (.iload 4, 2) := by decide +kernel
theorem dX6_deeper_90 : decode cX6_deeper 90 = .ok (.istore_n 2, 1) := by decide +kernel
theorem dX6_deeper_91 : decode cX6_deeper 91 = .ok (.iinc 4 1, 3) := by decide +kernel
theorem dX6_deeper_94 : decode cX6_deeper 94 = .ok (.goto (-75), 3) := by decide +kernel
theorem dX6_deeper_97 : decode cX6_deeper 97 = .ok (.iload_n 1, 1) := by decide +kernel
theorem dX6_deeper_98 : decode cX6_deeper 98 = .ok (.ifCond .eq 9, 3) := by decide +kernel
theorem dX6_deeper_101 : decode cX6_deeper 101 = .ok (.iload_n 2, 1) := by decide +kernel
theorem dX6_deeper_102 : decode cX6_deeper 102 = .ok (.bipush (-4), 2) := by decide +kernel
theorem dX6_deeper_104 : decode cX6_deeper 104 = .ok (.if_icmp .ne 7, 3) := by decide +kernel
theorem dX6_deeper_107 : decode cX6_deeper 107 = .ok (.iload_n 2, 1) := by decide +kernel
theorem dX6_deeper_108 : decode cX6_deeper 108 = .ok (.goto 4, 3) := by decide +kernel
theorem dX6_deeper_111 : decode cX6_deeper 111 = .ok (.iload_n 3, 1) := by decide +kernel
theorem dX6_deeper_112 : decode cX6_deeper 112 = .ok (.ireturn, 1) := by decide +kernel
theorem dX6_years_0 : decode cX6_years 0 = .ok (.iload_n 1, 1) := by decide +kernel
theorem dX6_years_1 : decode cX6_years 1 = .ok (.iconst 1, 1) := by decide +kernel
theorem dX6_years_2 : decode cX6_years 2 = .ok (.bipush 20, 2) := by decide +kernel
theorem dX6_years_4 : decode cX6_years 4 = .ok (.invokestatic 139, 3) := by decide +kernel
theorem dX6_years_7 : decode cX6_years 7 = .ok (.ifCond .ne 5, 3) := by decide +kernel
theorem dX6_years_10 : decode cX6_years 10 = .ok (.iconst (-1), 1) := by decide +kernel
theorem dX6_years_11 : decode cX6_years 11 = .ok (.ireturn, 1) := by decide +kernel
theorem dX6_years_12 : decode cX6_years 12 = .ok (.aload_n 0, 1) := by decide +kernel
theorem dX6_years_13 : decode cX6_years 13 = .ok (.getfield 23, 3) := by decide +kernel
theorem dX6_years_16 : decode cX6_years 16 = .ok (.aload_n 0, 1) := by decide +kernel
theorem dX6_years_17 : decode cX6_years 17 = .ok (.getfield 19, 3) := by decide +kernel
end
section
theorem dX6_years_20 : decode cX6_years 20 = .ok (.invokevirtual 91, 3) := by decide +kernel
theorem dX6_years_23 : decode cX6_years 23 = .ok (.aload_n 0, 1) := by decide +kernel
theorem dX6_years_24 : decode cX6_years 24 = .ok (.getfield 23, 3) := by decide +kernel
theorem dX6_years_27 : decode cX6_years 27 = .ok (.iload_n 1, 1) := by decide +kernel
theorem dX6_years_28 : decode cX6_years 28 = .ok (.invokevirtual 149, 3) := by decide +kernel
theorem dX6_years_31 : decode cX6_years 31 = .ok (.ireturn, 1) := by decide +kernel
theorem dX6_seen_0 : decode cX6_seen 0 = .ok (.iload_n 1, 1) := by decide +kernel
theorem dX6_seen_1 : decode cX6_seen 1 = .ok (.iconst 0, 1) := by decide +kernel
theorem dX6_seen_2 : decode cX6_seen 2 = .ok (.bipush 20, 2) := by decide +kernel
theorem dX6_seen_4 : decode cX6_seen 4 = .ok (.invokestatic 139, 3) := by decide +kernel
theorem dX6_seen_7 : decode cX6_seen 7 = .ok (.ifCond .eq 23, 3) := by decide +kernel
theorem dX6_seen_10 : decode cX6_seen 10 = .ok (.aload_n 0, 1) := by decide +kernel
theorem dX6_seen_11 : decode cX6_seen 11 = .ok (.getfield 19, 3) := by decide +kernel
theorem dX6_seen_14 : decode cX6_seen 14 = .ok (.iload_n 2, 1) := by decide +kernel
theorem dX6_seen_15 : decode cX6_seen 15 = .ok (.invokevirtual 114, 3) := by decide +kernel
theorem dX6_seen_18 : decode cX6_seen 18 = .ok (.ifCond .eq 12, 3) := by decide +kernel
theorem dX6_seen_21 : decode cX6_seen 21 = .ok (.iload_n 3, 1) := by decide +kernel
theorem dX6_seen_22 : decode cX6_seen 22 = .ok (.iconst 0, 1) := by decide +kernel
theorem dX6_seen_23 : decode cX6_seen 23 = .ok (.iconst 1, 1) := by decide +kernel
theorem dX6_seen_24 : decode cX6_seen 24 = .ok (.invokestatic 139, 3) := by decide +kernel
theorem dX6_seen_27 : decode cX6_seen 27 = .ok (.ifCond .ne 5, 3) := by decide +kernel
theorem dX6_seen_30 : decode cX6_seen 30 = .ok (.iconst (-1), 1) := by decide +kernel
theorem dX6_seen_31 : decode cX6_seen 31 = .ok (.ireturn, 1) := by decide +kernel
theorem dX6_seen_32 : decode cX6_seen 32 = .ok (.aload_n 0, 1) := by decide +kernel
theorem dX6_seen_33 : decode cX6_seen 33 = .ok (.getfield 41, 3) := by decide +kernel
theorem dX6_seen_36 : decode cX6_seen 36 = .ok (.iload_n 1, 1) := by decide +kernel
theorem dX6_seen_37 : decode cX6_seen 37 = .ok (.iload_n 2, 1) := by decide +kernel
theorem dX6_seen_38 : decode cX6_seen 38 = .ok (.iload_n 3, 1) := by decide +kernel
theorem dX6_seen_39 : decode cX6_seen 39 = .ok (.iconst 1, 1) := by decide +kernel
theorem dX6_seen_40 : decode cX6_seen 40 = .ok (.if_icmp .ne 7, 3) := by decide +kernel
theorem dX6_seen_43 : decode cX6_seen 43 = .ok (.iconst 1, 1) := by decide +kernel
theorem dX6_seen_44 : decode cX6_seen 44 = .ok (.goto 4, 3) := by decide +kernel
theorem dX6_seen_47 : decode cX6_seen 47 = .ok (.iconst 0, 1) := by decide +kernel
theorem dX6_seen_48 : decode cX6_seen 48 = .ok (.invokevirtual 192, 3) := by decide +kernel
theorem dX6_seen_51 : decode cX6_seen 51 = .ok (.ifCond .eq 13, 3) := by decide +kernel
theorem dX6_seen_54 : decode cX6_seen 54 = .ok (.aload_n 0, 1) := by decide +kernel
theorem dX6_seen_55 : decode cX6_seen 55 = .ok (.getfield 41, 3) := by decide +kernel
theorem dX6_seen_58 : decode cX6_seen 58 = .ok (.getfield 195, 3) := by decide +kernel
theorem dX6_seen_61 : decode cX6_seen 61 = .ok (.goto 5, 3) := by decide +kernel
theorem dX6_seen_64 : decode cX6_seen 64 = .ok (.bipush (-3), 2) := by decide +kernel
theorem dX6_seen_66 : decode cX6_seen 66 = .ok (.ireturn, 1) := by decide +kernel
theorem dX6_forget_0 : decode cX6_forget 0 = .ok (.aload_n 0, 1) := by decide +kernel
theorem dX6_forget_1 : decode cX6_forget 1 = .ok (.getfield 41, 3) := by decide +kernel
theorem dX6_forget_4 : decode cX6_forget 4 = .ok (.invokevirtual 97, 3) := by decide +kernel
theorem dX6_forget_7 : decode cX6_forget 7 = .ok (.ireturn, 1) := by decide +kernel
theorem dX6_plots_0 : decode cX6_plots 0 = .ok (.aload_n 0, 1) := by decide +kernel
theorem dX6_plots_1 : decode cX6_plots 1 = .ok (.getfield 19, 3) := by decide +kernel
theorem dX6_plots_4 : decode cX6_plots 4 = .ok (.iload_n 1, 1) := by decide +kernel
theorem dX6_plots_5 : decode cX6_plots 5 = .ok (.invokevirtual 114, 3) := by decide +kernel
theorem dX6_plots_8 : decode cX6_plots 8 = .ok (.ifCond .ne 5, 3) := by decide +kernel
theorem dX6_plots_11 : decode cX6_plots 11 = .ok (.iconst (-1), 1) := by decide +kernel
theorem dX6_plots_12 : decode cX6_plots 12 = .ok (.ireturn, 1) := by decide +kernel
theorem dX6_plots_13 : decode cX6_plots 13 = .ok (.iconst 0, 1) := by decide +kernel
theorem dX6_plots_14 : decode cX6_plots 14 = .ok (.istore_n 2, 1) := by decide +kernel
theorem dX6_plots_15 : decode cX6_plots 15 = .ok (.iconst 0, 1) := by decide +kernel
theorem dX6_plots_16 : decode cX6_plots 16 = .ok (.istore_n 3, 1) := by decide +kernel
theorem dX6_plots_17 : decode cX6_plots 17 = .ok (.iload_n 3, 1) := by decide +kernel
theorem dX6_plots_18 : decode cX6_plots 18 = .ok (.aload_n 0, 1) := by decide +kernel
theorem dX6_plots_19 : decode cX6_plots 19 = .ok (.getfield 19, 3) := by decide +kernel
theorem dX6_plots_22 : decode cX6_plots 22 = .ok (.getfield 85, 3) := by decide +kernel
theorem dX6_plots_25 : decode cX6_plots 25 = .ok (.if_icmp .ge 58, 3) := by decide +kernel
theorem dX6_plots_28 : decode cX6_plots 28 = .ok (.aload_n 0, 1) := by decide +kernel
theorem dX6_plots_29 : decode cX6_plots 29 = .ok (.getfield 23, 3) := by decide +kernel
theorem dX6_plots_32 : decode cX6_plots 32 = .ok (.aload_n 0, 1) := by decide +kernel
theorem dX6_plots_33 : decode cX6_plots 33 = .ok (.getfield 19, 3) := by decide +kernel
theorem dX6_plots_36 : decode cX6_plots 36 = .ok (.invokevirtual 91, 3) := by decide +kernel
theorem dX6_plots_39 : decode cX6_plots 39 = .ok (.aload_n 0, 1) := by decide +kernel
theorem dX6_plots_40 : decode cX6_plots 40 = .ok (.getfield 23, 3) := by decide +kernel
theorem dX6_plots_43 : decode cX6_plots 43 = .ok (.iload_n 1, 1) := by decide +kernel
theorem dX6_plots_44 : decode cX6_plots 44 = .ok (.invokevirtual 159, 3) := by decide +kernel
theorem dX6_plots_47 : decode cX6_plots 47 = .ok (.pop, 1) := by decide +kernel
theorem dX6_plots_48 : decode cX6_plots 48 = .ok (.aload_n 0, 1) := by decide +kernel
theorem dX6_plots_49 : decode cX6_plots 49 = .ok (.getfield 23, 3) := by decide +kernel
theorem dX6_plots_52 : decode cX6_plots 52 = .ok (.iload_n 1, 1) := by decide +kernel
theorem dX6_plots_53 : decode cX6_plots 53 = .ok (.iload_n 3, 1) := by decide +kernel
theorem dX6_plots_54 : decode cX6_plots 54 = .ok (.invokevirtual 155, 3) := by decide +kernel
theorem dX6_plots_57 : decode cX6_plots 57 = .ok (.aload_n 0, 1) := by decide +kernel
theorem dX6_plots_58 : decode cX6_plots 58 = .ok (.getfield 41, 3) := by decide +kernel
theorem dX6_plots_61 : decode cX6_plots 61 = .ok (.aload_n 0, 1) := by decide +kernel
theorem dX6_plots_62 : decode cX6_plots 62 = .ok (.getfield 23, 3) := by decide +kernel
theorem dX6_plots_65 : decode cX6_plots 65 = .ok (.invokevirtual 196, 3) := by decide +kernel
theorem dX6_plots_68 : decode cX6_plots 68 = .ok (.ifCond .eq 9, 3) := by decide +kernel
theorem dX6_plots_71 : decode cX6_plots 71 = .ok (.iload_n 2, 1) := by decide +kernel
theorem dX6_plots_72 : decode cX6_plots 72 = .ok (.iconst 1, 1) := by decide +kernel
theorem dX6_plots_73 : decode cX6_plots 73 = .ok (.iload_n 3, 1) := by decide +kernel
theorem dX6_plots_74 : decode cX6_plots 74 = .ok (.ishl, 1) := by decide +kernel
theorem dX6_plots_75 : decode cX6_plots 75 = .ok (.ior, 1) := by decide +kernel
theorem dX6_plots_76 : decode cX6_plots 76 = .ok (.istore_n 2, 1) := by decide +kernel
theorem dX6_plots_77 : decode cX6_plots 77 = .ok (.iinc 3 1, 3) := by decide +kernel
theorem dX6_plots_80 : decode cX6_plots 80 = .ok (.goto (-63), 3) := by decide +kernel
theorem dX6_plots_83 : decode cX6_plots 83 = .ok (.iload_n 2, 1) := by decide +kernel
theorem dX6_plots_84 : decode cX6_plots 84 = .ok (.ireturn, 1) := by decide +kernel
theorem dX6_kinds_0 : decode cX6_kinds 0 = .ok (.aload_n 0, 1) := by decide +kernel
theorem dX6_kinds_1 : decode cX6_kinds 1 = .ok (.getfield 19, 3) := by decide +kernel
theorem dX6_kinds_4 : decode cX6_kinds 4 = .ok (.iload_n 1, 1) := by decide +kernel
theorem dX6_kinds_5 : decode cX6_kinds 5 = .ok (.invokevirtual 114, 3) := by decide +kernel
theorem dX6_kinds_8 : decode cX6_kinds 8 = .ok (.ifCond .ne 5, 3) := by decide +kernel
theorem dX6_kinds_11 : decode cX6_kinds 11 = .ok (.iconst (-1), 1) := by decide +kernel
theorem dX6_kinds_12 : decode cX6_kinds 12 = .ok (.ireturn, 1) := by decide +kernel
theorem dX6_kinds_13 : decode cX6_kinds 13 = .ok (.iconst 0, 1) := by decide +kernel
theorem dX6_kinds_14 : decode cX6_kinds 14 = .ok (.istore_n 2, 1) := by decide +kernel
theorem dX6_kinds_15 : decode cX6_kinds 15 = .ok (.iconst 0, 1) := by decide +kernel
theorem dX6_kinds_16 : decode cX6_kinds 16 = .ok (.istore_n 3, 1) := by decide +kernel
theorem dX6_kinds_17 : decode cX6_kinds 17 = .ok (.iload_n 3, 1) := by decide +kernel
theorem dX6_kinds_18 : decode cX6_kinds 18 = .ok (.iconst 4, 1) := by decide +kernel
theorem dX6_kinds_19 : decode cX6_kinds 19 = .ok (.if_icmp .ge 49, 3) := by decide +kernel
theorem dX6_kinds_22 : decode cX6_kinds 22 = .ok (.aload_n 0, 1) := by decide +kernel
theorem dX6_kinds_23 : decode cX6_kinds 23 = .ok (.getfield 23, 3) := by decide +kernel
theorem dX6_kinds_26 : decode cX6_kinds 26 = .ok (.aload_n 0, 1) := by decide +kernel
theorem dX6_kinds_27 : decode cX6_kinds 27 = .ok (.getfield 19, 3) := by decide +kernel
theorem dX6_kinds_30 : decode cX6_kinds 30 = .ok (.invokevirtual 91, 3) := by decide +kernel
theorem dX6_kinds_33 : decode cX6_kinds 33 = .ok (.aload_n 0, 1) := by decide +kernel
theorem dX6_kinds_34 : decode cX6_kinds 34 = .ok (.getfield 23, 3) := by decide +kernel
theorem dX6_kinds_37 : decode cX6_kinds 37 = .ok (.iload_n 1, 1) := by decide +kernel
theorem dX6_kinds_38 : decode cX6_kinds 38 = .ok (.iload_n 3, 1) := by decide +kernel
theorem dX6_kinds_39 : decode cX6_kinds 39 = .ok (.invokevirtual 199, 3) := by decide +kernel
theorem dX6_kinds_42 : decode cX6_kinds 42 = .ok (.aload_n 0, 1) := by decide +kernel
theorem dX6_kinds_43 : decode cX6_kinds 43 = .ok (.getfield 41, 3) := by decide +kernel
theorem dX6_kinds_46 : decode cX6_kinds 46 = .ok (.aload_n 0, 1) := by decide +kernel
theorem dX6_kinds_47 : decode cX6_kinds 47 = .ok (.getfield 23, 3) := by decide +kernel
theorem dX6_kinds_50 : decode cX6_kinds 50 = .ok (.invokevirtual 196, 3) := by decide +kernel
theorem dX6_kinds_53 : decode cX6_kinds 53 = .ok (.ifCond .eq 9, 3) := by decide +kernel
theorem dX6_kinds_56 : decode cX6_kinds 56 = .ok (.iload_n 2, 1) := by decide +kernel
theorem dX6_kinds_57 : decode cX6_kinds 57 = .ok (.iconst 1, 1) := by decide +kernel
theorem dX6_kinds_58 : decode cX6_kinds 58 = .ok (.iload_n 3, 1) := by decide +kernel
theorem dX6_kinds_59 : decode cX6_kinds 59 = .ok (.ishl, 1) := by decide +kernel
theorem dX6_kinds_60 : decode cX6_kinds 60 = .ok (.ior, 1) := by decide +kernel
theorem dX6_kinds_61 : decode cX6_kinds 61 = .ok (.istore_n 2, 1) := by decide +kernel
theorem dX6_kinds_62 : decode cX6_kinds 62 = .ok (.iinc 3 1, 3) := by decide +kernel
theorem dX6_kinds_65 : decode cX6_kinds 65 = .ok (.goto (-48), 3) := by decide +kernel
theorem dX6_kinds_68 : decode cX6_kinds 68 = .ok (.iload_n 2, 1) := by decide +kernel
theorem dX6_kinds_69 : decode cX6_kinds 69 = .ok (.ireturn, 1) := by decide +kernel
theorem dX6_likely_0 : decode cX6_likely 0 = .ok (.aload_n 0, 1) := by decide +kernel
theorem dX6_likely_1 : decode cX6_likely 1 = .ok (.getfield 19, 3) := by decide +kernel
theorem dX6_likely_4 : decode cX6_likely 4 = .ok (.iload_n 1, 1) := by decide +kernel
theorem dX6_likely_5 : decode cX6_likely 5 = .ok (.invokevirtual 114, 3) := by decide +kernel
theorem dX6_likely_8 : decode cX6_likely 8 = .ok (.ifCond .eq 33, 3) := by decide +kernel
theorem dX6_likely_11 : decode cX6_likely 11 = .ok (.iload_n 2, 1) := by decide +kernel
theorem dX6_likely_12 : decode cX6_likely 12 = .ok (.iconst 0, 1) := by decide +kernel
theorem dX6_likely_13 : decode cX6_likely 13 = .ok (.bipush 8, 2) := by decide +kernel
theorem dX6_likely_15 : decode cX6_likely 15 = .ok (.invokestatic 139, 3) := by decide +kernel
theorem dX6_likely_18 : decode cX6_likely 18 = .ok (.ifCond .eq 23, 3) := by decide +kernel
theorem dX6_likely_21 : decode cX6_likely 21 = .ok (.iload_n 3, 1) := by decide +kernel
theorem dX6_likely_22 : decode cX6_likely 22 = .ok (.iconst 0, 1) := by decide +kernel
theorem dX6_likely_23 : decode cX6_likely 23 = .ok (.bipush 10, 2) := by decide +kernel
theorem dX6_likely_25 : decode cX6_likely 25 = .ok (.invokestatic 139, 3) := by decide +kernel
theorem dX6_likely_28 : decode cX6_likely 28 = .ok (.ifCond .eq 13, 3) := by decide +kernel
theorem dX6_likely_31 : decode cX6_likely 31 = .ok (.iload 4, 2) := by decide +kernel
theorem dX6_likely_33 : decode cX6_likely 33 = .ok (.iconst 0, 1) := by decide +kernel
theorem dX6_likely_34 : decode cX6_likely 34 = .ok (.iconst 1, 1) := by decide +kernel
theorem dX6_likely_35 : decode cX6_likely 35 = .ok (.invokestatic 139, 3) := by decide +kernel
theorem dX6_likely_38 : decode cX6_likely 38 = .ok (.ifCond .ne 5, 3) := by decide +kernel
theorem dX6_likely_41 : decode cX6_likely 41 = .ok (.iconst (-1), 1) := by decide +kernel
theorem dX6_likely_42 : decode cX6_likely 42 = .ok (.ireturn, 1) := by decide +kernel
theorem dX6_likely_43 : decode cX6_likely 43 = .ok (.aload_n 0, 1) := by decide +kernel
theorem dX6_likely_44 : decode cX6_likely 44 = .ok (.getfield 19, 3) := by decide +kernel
theorem dX6_likely_47 : decode cX6_likely 47 = .ok (.iload_n 1, 1) := by decide +kernel
theorem dX6_likely_48 : decode cX6_likely 48 = .ok (.invokevirtual 126, 3) := by decide +kernel
theorem dX6_likely_51 : decode cX6_likely 51 = .ok (.ifCond .ne 6, 3) := by decide +kernel
theorem dX6_likely_54 : decode cX6_likely 54 = .ok (.bipush (-2), 2) := by decide +kernel
theorem dX6_likely_56 : decode cX6_likely 56 = .ok (.ireturn, 1) := by decide +kernel
theorem dX6_likely_57 : decode cX6_likely 57 = .ok (.aload_n 0, 1) := by decide +kernel
theorem dX6_likely_58 : decode cX6_likely 58 = .ok (.getfield 55, 3) := by decide +kernel
theorem dX6_likely_61 : decode cX6_likely 61 = .ok (.aload_n 0, 1) := by decide +kernel
theorem dX6_likely_62 : decode cX6_likely 62 = .ok (.getfield 19, 3) := by decide +kernel
theorem dX6_likely_65 : decode cX6_likely 65 = .ok (.aload_n 0, 1) := by decide +kernel
theorem dX6_likely_66 : decode cX6_likely 66 = .ok (.getfield 19, 3) := by decide +kernel
theorem dX6_likely_69 : decode cX6_likely 69 = .ok (.iload_n 1, 1) := by decide +kernel
theorem dX6_likely_70 : decode cX6_likely 70 = .ok (.invokevirtual 123, 3) := by decide +kernel
theorem dX6_likely_73 : decode cX6_likely 73 = .ok (.iload_n 2, 1) := by decide +kernel
theorem dX6_likely_74 : decode cX6_likely 74 = .ok (.invokevirtual 202, 3) := by decide +kernel
theorem dX6_likely_77 : decode cX6_likely 77 = .ok (.iload_n 3, 1) := by decide +kernel
theorem dX6_likely_78 : decode cX6_likely 78 = .ok (.aload_n 0, 1) := by decide +kernel
theorem dX6_likely_79 : decode cX6_likely 79 = .ok (.getfield 19, 3) := by decide +kernel
theorem dX6_likely_82 : decode cX6_likely 82 = .ok (.iload_n 1, 1) := by decide +kernel
theorem dX6_likely_83 : decode cX6_likely 83 = .ok (.invokevirtual 206, 3) := by decide +kernel
theorem dX6_likely_86 : decode cX6_likely 86 = .ok (.invokevirtual 209, 3) := by decide +kernel
theorem dX6_likely_89 : decode cX6_likely 89 = .ok (.iload 4, 2) := by decide +kernel
theorem dX6_likely_91 : decode cX6_likely 91 = .ok (.ifCond .ne 13, 3) := by decide +kernel
theorem dX6_likely_94 : decode cX6_likely 94 = .ok (.aload_n 0, 1) := by decide +kernel
theorem dX6_likely_95 : decode cX6_likely 95 = .ok (.getfield 55, 3) := by decide +kernel
theorem dX6_likely_98 : decode cX6_likely 98 = .ok (.getfield 213, 3) := by decide +kernel
theorem dX6_likely_101 : decode cX6_likely 101 = .ok (.goto 10, 3) := by decide +kernel
theorem dX6_likely_104 : decode cX6_likely 104 = .ok (.aload_n 0, 1) := by decide +kernel
theorem dX6_likely_105 : decode cX6_likely 105 = .ok (.getfield 55, 3) := by decide +kernel
theorem dX6_likely_108 : decode cX6_likely 108 = .ok (.getfield 216, 3) := by decide +kernel
theorem dX6_likely_111 : decode cX6_likely 111 = .ok (.ireturn, 1) := by decide +kernel
theorem dX6_decade_0 : decode cX6_decade 0 = .ok (.iload_n 1, 1) := by decide +kernel
theorem dX6_decade_1 : decode cX6_decade 1 = .ok (.iconst 0, 1) := by decide +kernel
theorem dX6_decade_2 : decode cX6_decade 2 = .ok (.sipush 9999, 3) := by decide +kernel
theorem dX6_decade_5 : decode cX6_decade 5 = .ok (.invokestatic 139, 3) := by decide +kernel
theorem dX6_decade_8 : decode cX6_decade 8 = .ok (.ifCond .eq 22, 3) := by decide +kernel
theorem dX6_decade_11 : decode cX6_decade 11 = .ok (.iload_n 2, 1) := by decide +kernel
theorem dX6_decade_12 : decode cX6_decade 12 = .ok (.iconst 1, 1) := by decide +kernel
theorem dX6_decade_13 : decode cX6_decade 13 = .ok (.bipush 60, 2) := by decide +kernel
theorem dX6_decade_15 : decode cX6_decade 15 = .ok (.invokestatic 139, 3) := by decide +kernel
theorem dX6_decade_18 : decode cX6_decade 18 = .ok (.ifCond .eq 12, 3) := by decide +kernel
theorem dX6_decade_21 : decode cX6_decade 21 = .ok (.iload_n 3, 1) := by decide +kernel
theorem dX6_decade_22 : decode cX6_decade 22 = .ok (.iconst 0, 1) := by decide +kernel
theorem dX6_decade_23 : decode cX6_decade 23 = .ok (.iconst 2, 1) := by decide +kernel
theorem dX6_decade_24 : decode cX6_decade 24 = .ok (.invokestatic 139, 3) := by decide +kernel
theorem dX6_decade_27 : decode cX6_decade 27 = .ok (.ifCond .ne 5, 3) := by decide +kernel
theorem dX6_decade_30 : decode cX6_decade 30 = .ok (.iconst (-1), 1) := by decide +kernel
theorem dX6_decade_31 : decode cX6_decade 31 = .ok (.ireturn, 1) := by decide +kernel
theorem dX6_decade_32 : decode cX6_decade 32 = .ok (.aload_n 0, 1) := by decide +kernel
theorem dX6_decade_33 : decode cX6_decade 33 = .ok (.getfield 23, 3) := by decide +kernel
theorem dX6_decade_36 : decode cX6_decade 36 = .ok (.aload_n 0, 1) := by decide +kernel
theorem dX6_decade_37 : decode cX6_decade 37 = .ok (.getfield 19, 3) := by decide +kernel
theorem dX6_decade_40 : decode cX6_decade 40 = .ok (.invokevirtual 91, 3) := by decide +kernel
theorem dX6_decade_43 : decode cX6_decade 43 = .ok (.aload_n 0, 1) := by decide +kernel
theorem dX6_decade_44 : decode cX6_decade 44 = .ok (.getfield 23, 3) := by decide +kernel
theorem dX6_decade_47 : decode cX6_decade 47 = .ok (.iconst 0, 1) := by decide +kernel
theorem dX6_decade_48 : decode cX6_decade 48 = .ok (.putfield 219, 3) := by decide +kernel
theorem dX6_decade_51 : decode cX6_decade 51 = .ok (.iconst 0, 1) := by decide +kernel
theorem dX6_decade_52 : decode cX6_decade 52 = .ok (.istore 4, 2) := by decide +kernel
theorem dX6_decade_54 : decode cX6_decade 54 = .ok (.iload 4, 2) := by decide +kernel
theorem dX6_decade_56 : decode cX6_decade 56 = .ok (.iload_n 2, 1) := by decide +kernel
theorem dX6_decade_57 : decode cX6_decade 57 = .ok (.if_icmp .ge 31, 3) := by decide +kernel
theorem dX6_decade_60 : decode cX6_decade 60 = .ok (.aload_n 0, 1) := by decide +kernel
theorem dX6_decade_61 : decode cX6_decade 61 = .ok (.getfield 23, 3) := by decide +kernel
theorem dX6_decade_64 : decode cX6_decade 64 = .ok (.iload_n 1, 1) := by decide +kernel
theorem dX6_decade_65 : decode cX6_decade 65 = .ok (.iload 4, 2) := by decide +kernel
theorem dX6_decade_67 : decode cX6_decade 67 = .ok (.invokestatic 222, 3) := by decide +kernel
theorem dX6_decade_70 : decode cX6_decade 70 = .ok (.invokevirtual 225, 3) := by decide +kernel
theorem dX6_decade_73 : decode cX6_decade 73 = .ok (.aload_n 0, 1) := by decide +kernel
theorem dX6_decade_74 : decode cX6_decade 74 = .ok (.getfield 23, 3) := by decide +kernel
theorem dX6_decade_77 : decode cX6_decade 77 = .ok (.iconst 1, 1) := by decide +kernel
theorem dX6_decade_78 : decode cX6_decade 78 = .ok (.invokevirtual 149, 3) := by decide +kernel
theorem dX6_decade_81 : decode cX6_decade 81 = .ok (.pop, 1) := by decide +kernel
theorem dX6_decade_82 : decode cX6_decade 82 = .ok (.iinc 4 1, 3) := by decide +kernel
theorem dX6_decade_85 : decode cX6_decade 85 = .ok (.goto (-31), 3) := by decide +kernel
theorem dX6_decade_88 : decode cX6_decade 88 = .ok (.iload_n 3, 1) := by decide +kernel
theorem dX6_decade_89 : decode cX6_decade 89 = .ok (.lookupswitch 43 #[(0, 27), (1, 35)], 27) := by decide +kernel
theorem dX6_decade_116 : decode cX6_decade 116 = .ok (.aload_n 0, 1) := by decide +kernel
theorem dX6_decade_117 : decode cX6_decade 117 = .ok (.getfield 23, 3) := by decide +kernel
theorem dX6_decade_120 : decode cX6_decade 120 = .ok (.invokevirtual 228, 3) := by decide +kernel
theorem dX6_decade_123 : decode cX6_decade 123 = .ok (.ireturn, 1) := by decide +kernel
theorem dX6_decade_124 : decode cX6_decade 124 = .ok (.aload_n 0, 1) := by decide +kernel
theorem dX6_decade_125 : decode cX6_decade 125 = .ok (.getfield 23, 3) := by decide +kernel
theorem dX6_decade_128 : decode cX6_decade 128 = .ok (.invokevirtual 231, 3) := by decide +kernel
theorem dX6_decade_131 : decode cX6_decade 131 = .ok (.ireturn, 1) := by decide +kernel
theorem dX6_decade_132 : decode cX6_decade 132 = .ok (.aload_n 0, 1) := by decide +kernel
theorem dX6_decade_133 : decode cX6_decade 133 = .ok (.getfield 23, 3) := by decide +kernel
theorem dX6_decade_136 : decode cX6_decade 136 = .ok (.getfield 219, 3) := by decide +kernel
theorem dX6_decade_139 : decode cX6_decade 139 = .ok (.ireturn, 1) := by decide +kernel
theorem dX6_keep_0 : decode cX6_keep 0 = .ok (.aload_n 0, 1) := by decide +kernel
theorem dX6_keep_1 : decode cX6_keep 1 = .ok (.getfield 35, 3) := by decide +kernel
theorem dX6_keep_4 : decode cX6_keep 4 = .ok (.invokevirtual 234, 3) := by decide +kernel
theorem dX6_keep_7 : decode cX6_keep 7 = .ok (.ifCond .eq 6, 3) := by decide +kernel
theorem dX6_keep_10 : decode cX6_keep 10 = .ok (.bipush (-3), 2) := by decide +kernel
theorem dX6_keep_12 : decode cX6_keep 12 = .ok (.ireturn, 1) := by decide +kernel
theorem dX6_keep_13 : decode cX6_keep 13 = .ok (.aload_n 0, 1) := by decide +kernel
theorem dX6_keep_14 : decode cX6_keep 14 = .ok (.getfield 35, 3) := by decide +kernel
theorem dX6_keep_17 : decode cX6_keep 17 = .ok (.aload_n 0, 1) := by decide +kernel
theorem dX6_keep_18 : decode cX6_keep 18 = .ok (.getfield 19, 3) := by decide +kernel
theorem dX6_keep_21 : decode cX6_keep 21 = .ok (.invokevirtual 146, 3) := by decide +kernel
theorem dX6_keep_24 : decode cX6_keep 24 = .ok (.aload_n 0, 1) := by decide +kernel
theorem dX6_keep_25 : decode cX6_keep 25 = .ok (.getfield 35, 3) := by decide +kernel
theorem dX6_keep_28 : decode cX6_keep 28 = .ok (.getfield 169, 3) := by decide +kernel
theorem dX6_keep_31 : decode cX6_keep 31 = .ok (.ireturn, 1) := by decide +kernel
theorem dX6_back_0 : decode cX6_back 0 = .ok (.aload_n 0, 1) := by decide +kernel
theorem dX6_back_1 : decode cX6_back 1 = .ok (.getfield 35, 3) := by decide +kernel
theorem dX6_back_4 : decode cX6_back 4 = .ok (.aload_n 0, 1) := by decide +kernel
theorem dX6_back_5 : decode cX6_back 5 = .ok (.getfield 19, 3) := by decide +kernel
theorem dX6_back_8 : decode cX6_back 8 = .ok (.invokevirtual 165, 3) := by decide +kernel
theorem dX6_back_11 : decode cX6_back 11 = .ok (.ifCond .ne 6, 3) := by decide +kernel
theorem dX6_back_14 : decode cX6_back 14 = .ok (.bipush (-2), 2) := by decide +kernel
theorem dX6_back_16 : decode cX6_back 16 = .ok (.ireturn, 1) := by decide +kernel
theorem dX6_back_17 : decode cX6_back 17 = .ok (.aload_n 0, 1) := by decide +kernel
theorem dX6_back_18 : decode cX6_back 18 = .ok (.getfield 31, 3) := by decide +kernel
theorem dX6_back_21 : decode cX6_back 21 = .ok (.invokevirtual 95, 3) := by decide +kernel
theorem dX6_back_24 : decode cX6_back 24 = .ok (.aload_n 0, 1) := by decide +kernel
theorem dX6_back_25 : decode cX6_back 25 = .ok (.getfield 35, 3) := by decide +kernel
theorem dX6_back_28 : decode cX6_back 28 = .ok (.getfield 169, 3) := by decide +kernel
theorem dX6_back_31 : decode cX6_back 31 = .ok (.ireturn, 1) := by decide +kernel
theorem dX6_count_0 : decode cX6_count 0 = .ok (.iload_n 1, 1) := by decide +kernel
theorem dX6_count_1 : decode cX6_count 1 = .ok (.tableswitch 155 0 10 #[59, 67, 75, 83, 91, 99, 115, 123, 131, 139, 147], 59) := by decide +kernel
theorem dX6_count_60 : decode cX6_count 60 = .ok (.aload_n 0, 1) := by decide +kernel
theorem dX6_count_61 : decode cX6_count 61 = .ok (.getfield 19, 3) := by decide +kernel
theorem dX6_count_64 : decode cX6_count 64 = .ok (.getfield 85, 3) := by decide +kernel
theorem dX6_count_67 : decode cX6_count 67 = .ok (.ireturn, 1) := by decide +kernel
theorem dX6_count_68 : decode cX6_count 68 = .ok (.aload_n 0, 1) := by decide +kernel
theorem dX6_count_69 : decode cX6_count 69 = .ok (.getfield 19, 3) := by decide +kernel
theorem dX6_count_72 : decode cX6_count 72 = .ok (.getfield 88, 3) := by decide +kernel
theorem dX6_count_75 : decode cX6_count 75 = .ok (.ireturn, 1) := by decide +kernel
theorem dX6_count_76 : decode cX6_count 76 = .ok (.aload_n 0, 1) := by decide +kernel
theorem dX6_count_77 : decode cX6_count 77 = .ok (.getfield 19, 3) := by decide +kernel
theorem dX6_count_80 : decode cX6_count 80 = .ok (.getfield 143, 3) := by decide +kernel
theorem dX6_count_83 : decode cX6_count 83 = .ok (.ireturn, 1) := by decide +kernel
theorem dX6_count_84 : decode cX6_count 84 = .ok (.aload_n 0, 1) := by decide +kernel
theorem dX6_count_85 : decode cX6_count 85 = .ok (.getfield 19, 3) := by decide +kernel
theorem dX6_count_88 : decode cX6_count 88 = .ok (.invokevirtual 228, 3) := by decide +kernel
theorem dX6_count_91 : decode cX6_count 91 = .ok (.ireturn, 1) := by decide +kernel
theorem dX6_count_92 : decode cX6_count 92 = .ok (.aload_n 0, 1) := by decide +kernel
theorem dX6_count_93 : decode cX6_count 93 = .ok (.getfield 19, 3) := by decide +kernel
theorem dX6_count_96 : decode cX6_count 96 = .ok (.invokevirtual 231, 3) := by decide +kernel
theorem dX6_count_99 : decode cX6_count 99 = .ok (.ireturn, 1) := by decide +kernel
theorem dX6_count_100 : decode cX6_count 100 = .ok (.aload_n 0, 1) := by decide +kernel
theorem dX6_count_101 : decode cX6_count 101 = .ok (.getfield 19, 3) := by decide +kernel
theorem dX6_count_104 : decode cX6_count 104 = .ok (.invokevirtual 238, 3) := by decide +kernel
theorem dX6_count_107 : decode cX6_count 107 = .ok (.ifCond .eq 7, 3) := by decide +kernel
theorem dX6_count_110 : decode cX6_count 110 = .ok (.iconst 1, 1) := by decide +kernel
theorem dX6_count_111 : decode cX6_count 111 = .ok (.goto 4, 3) := by decide +kernel
theorem dX6_count_114 : decode cX6_count 114 = .ok (.iconst 0, 1) := by decide +kernel
theorem dX6_count_115 : decode cX6_count 115 = .ok (.ireturn, 1) := by decide +kernel
theorem dX6_count_116 : decode cX6_count 116 = .ok (.aload_n 0, 1) := by decide +kernel
theorem dX6_count_117 : decode cX6_count 117 = .ok (.getfield 19, 3) := by decide +kernel
theorem dX6_count_120 : decode cX6_count 120 = .ok (.getfield 219, 3) := by decide +kernel
theorem dX6_count_123 : decode cX6_count 123 = .ok (.ireturn, 1) := by decide +kernel
theorem dX6_count_124 : decode cX6_count 124 = .ok (.aload_n 0, 1) := by decide +kernel
theorem dX6_count_125 : decode cX6_count 125 = .ok (.getfield 41, 3) := by decide +kernel
theorem dX6_count_128 : decode cX6_count 128 = .ok (.getfield 195, 3) := by decide +kernel
theorem dX6_count_131 : decode cX6_count 131 = .ok (.ireturn, 1) := by decide +kernel
theorem dX6_count_132 : decode cX6_count 132 = .ok (.aload_n 0, 1) := by decide +kernel
theorem dX6_count_133 : decode cX6_count 133 = .ok (.getfield 31, 3) := by decide +kernel
theorem dX6_count_136 : decode cX6_count 136 = .ok (.getfield 169, 3) := by decide +kernel
theorem dX6_count_139 : decode cX6_count 139 = .ok (.ireturn, 1) := by decide +kernel
theorem dX6_count_140 : decode cX6_count 140 = .ok (.aload_n 0, 1) := by decide +kernel
theorem dX6_count_141 : decode cX6_count 141 = .ok (.getfield 35, 3) := by decide +kernel
theorem dX6_count_144 : decode cX6_count 144 = .ok (.getfield 169, 3) := by decide +kernel
theorem dX6_count_147 : decode cX6_count 147 = .ok (.ireturn, 1) := by decide +kernel
theorem dX6_count_148 : decode cX6_count 148 = .ok (.aload_n 0, 1) := by decide +kernel
theorem dX6_count_149 : decode cX6_count 149 = .ok (.getfield 12, 3) := by decide +kernel
theorem dX6_count_152 : decode cX6_count 152 = .ok (.getfield 82, 3) := by decide +kernel
theorem dX6_count_155 : decode cX6_count 155 = .ok (.ireturn, 1) := by decide +kernel
theorem dX6_count_156 : decode cX6_count 156 = .ok (.iconst (-1), 1) := by decide +kernel
theorem dX6_count_157 : decode cX6_count 157 = .ok (.ireturn, 1) := by decide +kernel
theorem dX6_isWithin_0 : decode cX6_isWithin 0 = .ok (.iload_n 0, 1) := by decide +kernel
theorem dX6_isWithin_1 : decode cX6_isWithin 1 = .ok (.iload_n 1, 1) := by decide +kernel
theorem dX6_isWithin_2 : decode cX6_isWithin 2 = .ok (.if_icmp .lt 12, 3) := by decide +kernel
theorem dX6_isWithin_5 : decode cX6_isWithin 5 = .ok (.iload_n 0, 1) := by decide +kernel
theorem dX6_isWithin_6 : decode cX6_isWithin 6 = .ok (.iload_n 2, 1) := by decide +kernel
theorem dX6_isWithin_7 : decode cX6_isWithin 7 = .ok (.if_icmp .gt 7, 3) := by decide +kernel
theorem dX6_isWithin_10 : decode cX6_isWithin 10 = .ok (.iconst 1, 1) := by decide +kernel
theorem dX6_isWithin_11 : decode cX6_isWithin 11 = .ok (.goto 4, 3) := by decide +kernel
theorem dX6_isWithin_14 : decode cX6_isWithin 14 = .ok (.iconst 0, 1) := by decide +kernel
theorem dX6_isWithin_15 : decode cX6_isWithin 15 = .ok (.ireturn, 1) := by decide +kernel
theorem dX6_drawOf_0 : decode cX6_drawOf 0 = .ok (.ldc2_w 241, 3) := by decide +kernel
theorem dX6_drawOf_3 : decode cX6_drawOf 3 = .ok (.iload_n 0, 1) := by decide +kernel
theorem dX6_drawOf_4 : decode cX6_drawOf 4 = .ok (.i2l, 1) := by decide +kernel
theorem dX6_drawOf_5 : decode cX6_drawOf 5 = .ok (.lmul, 1) := by decide +kernel
theorem dX6_drawOf_6 : decode cX6_drawOf 6 = .ok (.ldc2_w 243, 3) := by decide +kernel
theorem dX6_drawOf_9 : decode cX6_drawOf 9 = .ok (.iload_n 1, 1) := by decide +kernel
theorem dX6_drawOf_10 : decode cX6_drawOf 10 = .ok (.i2l, 1) := by decide +kernel
theorem dX6_drawOf_11 : decode cX6_drawOf 11 = .ok (.lmul, 1) := by decide +kernel
theorem dX6_drawOf_12 : decode cX6_drawOf 12 = .ok (.ladd, 1) := by decide +kernel
theorem dX6_drawOf_13 : decode cX6_drawOf 13 = .ok (.lconst 1, 1) := by decide +kernel
theorem dX6_drawOf_14 : decode cX6_drawOf 14 = .ok (.ladd, 1) := by decide +kernel
theorem dX6_drawOf_15 : decode cX6_drawOf 15 = .ok (.lstore_n 2, 1) := by decide +kernel
theorem dX6_drawOf_16 : decode cX6_drawOf 16 = .ok (.lload_n 2, 1) := by decide +kernel
theorem dX6_drawOf_17 : decode cX6_drawOf 17 = .ok (.lload_n 2, 1) := by decide +kernel
theorem dX6_drawOf_18 : decode cX6_drawOf 18 = .ok (.lmul, 1) := by decide +kernel
theorem dX6_drawOf_19 : decode cX6_drawOf 19 = .ok (.ldc2_w 245, 3) := by decide +kernel
theorem dX6_drawOf_22 : decode cX6_drawOf 22 = .ok (.lrem, 1) := by decide +kernel
theorem dX6_drawOf_23 : decode cX6_drawOf 23 = .ok (.ldc2_w 247, 3) := by decide +kernel
theorem dX6_drawOf_26 : decode cX6_drawOf 26 = .ok (.ldiv, 1) := by decide +kernel
theorem dX6_drawOf_27 : decode cX6_drawOf 27 = .ok (.l2i, 1) := by decide +kernel
theorem dX6_drawOf_28 : decode cX6_drawOf 28 = .ok (.ireturn, 1) := by decide +kernel
theorem dX7_init_0 : decode cX7_init 0 = .ok (.aload_n 0, 1) := by decide +kernel
theorem dX7_init_1 : decode cX7_init 1 = .ok (.invokespecial 1, 3) := by decide +kernel
theorem dX7_init_4 : decode cX7_init 4 = .ok (.aload_n 0, 1) := by decide +kernel
theorem dX7_init_5 : decode cX7_init 5 = .ok (.sipush 200, 3) := by decide +kernel
theorem dX7_init_8 : decode cX7_init 8 = .ok (.newarray .int, 2) := by decide +kernel
theorem dX7_init_10 : decode cX7_init 10 = .ok (.putfield 7, 3) := by decide +kernel
theorem dX7_init_13 : decode cX7_init 13 = .ok (.aload_n 0, 1) := by decide +kernel
theorem dX7_init_14 : decode cX7_init 14 = .ok (.bipush 56, 2) := by decide +kernel
theorem dX7_init_16 : decode cX7_init 16 = .ok (.newarray .int, 2) := by decide +kernel
theorem dX7_init_18 : decode cX7_init 18 = .ok (.putfield 13, 3) := by decide +kernel
theorem dX7_init_21 : decode cX7_init 21 = .ok (.aload_n 0, 1) := by decide +kernel
theorem dX7_init_22 : decode cX7_init 22 = .ok (.bipush 56, 2) := by decide +kernel
theorem dX7_init_24 : decode cX7_init 24 = .ok (.newarray .int, 2) := by decide +kernel
theorem dX7_init_26 : decode cX7_init 26 = .ok (.putfield 16, 3) := by decide +kernel
theorem dX7_init_29 : decode cX7_init 29 = .ok (.aload_n 0, 1) := by decide +kernel
theorem dX7_init_30 : decode cX7_init 30 = .ok (.bipush 21, 2) := by decide +kernel
theorem dX7_init_32 : decode cX7_init 32 = .ok (.newarray .int, 2) := by decide +kernel
theorem dX7_init_34 : decode cX7_init 34 = .ok (.putfield 19, 3) := by decide +kernel
theorem dX7_init_37 : decode cX7_init 37 = .ok (.aload_n 0, 1) := by decide +kernel
theorem dX7_init_38 : decode cX7_init 38 = .ok (.sipush 168, 3) := by decide +kernel
theorem dX7_init_41 : decode cX7_init 41 = .ok (.newarray .int, 2) := by decide +kernel
theorem dX7_init_43 : decode cX7_init 43 = .ok (.putfield 22, 3) := by decide +kernel
theorem dX7_init_46 : decode cX7_init 46 = .ok (.aload_n 0, 1) := by decide +kernel
theorem dX7_init_47 : decode cX7_init 47 = .ok (.bipush 42, 2) := by decide +kernel
theorem dX7_init_49 : decode cX7_init 49 = .ok (.newarray .int, 2) := by decide +kernel
theorem dX7_init_51 : decode cX7_init 51 = .ok (.putfield 25, 3) := by decide +kernel
theorem dX7_init_54 : decode cX7_init 54 = .ok (.aload_n 0, 1) := by decide +kernel
theorem dX7_init_55 : decode cX7_init 55 = .ok (.bipush 18, 2) := by decide +kernel
theorem dX7_init_57 : decode cX7_init 57 = .ok (.newarray .int, 2) := by decide +kernel
theorem dX7_init_59 : decode cX7_init 59 = .ok (.putfield 28, 3) := by decide +kernel
theorem dX7_init_62 : decode cX7_init 62 = .ok (.aload_n 0, 1) := by decide +kernel
theorem dX7_init_63 : decode cX7_init 63 = .ok (.bipush 21, 2) := by decide +kernel
theorem dX7_init_65 : decode cX7_init 65 = .ok (.newarray .int, 2) := by decide +kernel
theorem dX7_init_67 : decode cX7_init 67 = .ok (.putfield 31, 3) := by decide +kernel
theorem dX7_init_70 : decode cX7_init 70 = .ok (.aload_n 0, 1) := by decide +kernel
theorem dX7_init_71 : decode cX7_init 71 = .ok (.bipush 7, 2) := by decide +kernel
theorem dX7_init_73 : decode cX7_init 73 = .ok (.newarray .int, 2) := by decide +kernel
theorem dX7_init_75 : decode cX7_init 75 = .ok (.putfield 34, 3) := by decide +kernel
theorem dX7_init_78 : decode cX7_init 78 = .ok (.aload_n 0, 1) := by decide +kernel
theorem dX7_init_79 : decode cX7_init 79 = .ok (.bipush 7, 2) := by decide +kernel
theorem dX7_init_81 : decode cX7_init 81 = .ok (.newarray .int, 2) := by decide +kernel
theorem dX7_init_83 : decode cX7_init 83 = .ok (.putfield 37, 3) := by decide +kernel
theorem dX7_init_86 : decode cX7_init 86 = .ok (.aload_n 0, 1) := by decide +kernel
theorem dX7_init_87 : decode cX7_init 87 = .ok (.bipush 8, 2) := by decide +kernel
theorem dX7_init_89 : decode cX7_init 89 = .ok (.newarray .int, 2) := by decide +kernel
theorem dX7_init_91 : decode cX7_init 91 = .ok (.putfield 40, 3) := by decide +kernel
theorem dX7_init_94 : decode cX7_init 94 = .ok (.aload_n 0, 1) := by decide +kernel
theorem dX7_init_95 : decode cX7_init 95 = .ok (.bipush 8, 2) := by decide +kernel
theorem dX7_init_97 : decode cX7_init 97 = .ok (.newarray .int, 2) := by decide +kernel
theorem dX7_init_99 : decode cX7_init 99 = .ok (.putfield 43, 3) := by decide +kernel
theorem dX7_init_102 : decode cX7_init 102 = .ok (.aload_n 0, 1) := by decide +kernel
theorem dX7_init_103 : decode cX7_init 103 = .ok (.bipush 21, 2) := by decide +kernel
theorem dX7_init_105 : decode cX7_init 105 = .ok (.newarray .int, 2) := by decide +kernel
theorem dX7_init_107 : decode cX7_init 107 = .ok (.putfield 46, 3) := by decide +kernel
theorem dX7_init_110 : decode cX7_init 110 = .ok (.aload_n 0, 1) := by decide +kernel
theorem dX7_init_111 : decode cX7_init 111 = .ok (.invokevirtual 49, 3) := by decide +kernel
theorem dX7_init_114 : decode cX7_init 114 = .ok (.aload_n 0, 1) := by decide +kernel
theorem dX7_init_115 : decode cX7_init 115 = .ok (.getfield 16, 3) := by decide +kernel
theorem dX7_init_118 : decode cX7_init 118 = .ok (.iconst 0, 1) := by decide +kernel
theorem dX7_init_119 : decode cX7_init 119 = .ok (.iconst 3, 1) := by decide +kernel
theorem dX7_init_120 : decode cX7_init 120 = .ok (.iastore, 1) := by decide +kernel
theorem dX7_init_121 : decode cX7_init 121 = .ok (.aload_n 0, 1) := by decide +kernel
theorem dX7_init_122 : decode cX7_init 122 = .ok (.getfield 19, 3) := by decide +kernel
theorem dX7_init_125 : decode cX7_init 125 = .ok (.iconst 2, 1) := by decide +kernel
theorem dX7_init_126 : decode cX7_init 126 = .ok (.iconst 4, 1) := by decide +kernel
theorem dX7_init_127 : decode cX7_init 127 = .ok (.iastore, 1) := by decide +kernel
theorem dX7_init_128 : decode cX7_init 128 = .ok (.aload_n 0, 1) := by decide +kernel
theorem dX7_init_129 : decode cX7_init 129 = .ok (.getfield 19, 3) := by decide +kernel
theorem dX7_init_132 : decode cX7_init 132 = .ok (.iconst 3, 1) := by decide +kernel
theorem dX7_init_133 : decode cX7_init 133 = .ok (.iconst 3, 1) := by decide +kernel
theorem dX7_init_134 : decode cX7_init 134 = .ok (.iastore, 1) := by decide +kernel
theorem dX7_init_135 : decode cX7_init 135 = .ok (.aload_n 0, 1) := by decide +kernel
theorem dX7_init_136 : decode cX7_init 136 = .ok (.getfield 19, 3) := by decide +kernel
theorem dX7_init_139 : decode cX7_init 139 = .ok (.iconst 4, 1) := by decide +kernel
theorem dX7_init_140 : decode cX7_init 140 = .ok (.iconst 5, 1) := by decide +kernel
theorem dX7_init_141 : decode cX7_init 141 = .ok (.iastore, 1) := by decide +kernel
theorem dX7_init_142 : decode cX7_init 142 = .ok (.aload_n 0, 1) := by decide +kernel
theorem dX7_init_143 : decode cX7_init 143 = .ok (.iconst 0, 1) := by decide +kernel
theorem dX7_init_144 : decode cX7_init 144 = .ok (.iconst 3, 1) := by decide +kernel
theorem dX7_init_145 : decode cX7_init 145 = .ok (.iconst 0, 1) := by decide +kernel
theorem dX7_init_146 : decode cX7_init 146 = .ok (.invokevirtual 52, 3) := by decide +kernel
theorem dX7_init_149 : decode cX7_init 149 = .ok (.aload_n 0, 1) := by decide +kernel
theorem dX7_init_150 : decode cX7_init 150 = .ok (.iconst 1, 1) := by decide +kernel
theorem dX7_init_151 : decode cX7_init 151 = .ok (.bipush 7, 2) := by decide +kernel
theorem dX7_init_153 : decode cX7_init 153 = .ok (.iconst 0, 1) := by decide +kernel
theorem dX7_init_154 : decode cX7_init 154 = .ok (.invokevirtual 52, 3) := by decide +kernel
theorem dX7_init_157 : decode cX7_init 157 = .ok (.aload_n 0, 1) := by decide +kernel
theorem dX7_init_158 : decode cX7_init 158 = .ok (.iconst 2, 1) := by decide +kernel
theorem dX7_init_159 : decode cX7_init 159 = .ok (.iconst 2, 1) := by decide +kernel
theorem dX7_init_160 : decode cX7_init 160 = .ok (.iconst 1, 1) := by decide +kernel
theorem dX7_init_161 : decode cX7_init 161 = .ok (.invokevirtual 52, 3) := by decide +kernel
theorem dX7_init_164 : decode cX7_init 164 = .ok (.aload_n 0, 1) := by decide +kernel
theorem dX7_init_165 : decode cX7_init 165 = .ok (.iconst 2, 1) := by decide +kernel
theorem dX7_init_166 : decode cX7_init 166 = .ok (.iconst 4, 1) := by decide +kernel
theorem dX7_init_167 : decode cX7_init 167 = .ok (.iconst 1, 1) := by decide +kernel
theorem dX7_init_168 : decode cX7_init 168 = .ok (.invokevirtual 52, 3) := by decide +kernel
theorem dX7_init_171 : decode cX7_init 171 = .ok (.aload_n 0, 1) := by decide +kernel
theorem dX7_init_172 : decode cX7_init 172 = .ok (.iconst 3, 1) := by decide +kernel
theorem dX7_init_173 : decode cX7_init 173 = .ok (.bipush 9, 2) := by decide +kernel
theorem dX7_init_175 : decode cX7_init 175 = .ok (.iconst 2, 1) := by decide +kernel
theorem dX7_init_176 : decode cX7_init 176 = .ok (.invokevirtual 52, 3) := by decide +kernel
theorem dX7_init_179 : decode cX7_init 179 = .ok (.aload_n 0, 1) := by decide +kernel
theorem dX7_init_180 : decode cX7_init 180 = .ok (.iconst 0, 1) := by decide +kernel
theorem dX7_init_181 : decode cX7_init 181 = .ok (.iconst 5, 1) := by decide +kernel
theorem dX7_init_182 : decode cX7_init 182 = .ok (.iconst (-1), 1) := by decide +kernel
theorem dX7_init_183 : decode cX7_init 183 = .ok (.invokevirtual 52, 3) := by decide +kernel
theorem dX7_init_186 : decode cX7_init 186 = .ok (.aload_n 0, 1) := by decide +kernel
theorem dX7_init_187 : decode cX7_init 187 = .ok (.iconst 1, 1) := by decide +kernel
theorem dX7_init_188 : decode cX7_init 188 = .ok (.bipush 6, 2) := by decide +kernel
theorem dX7_init_190 : decode cX7_init 190 = .ok (.iconst (-1), 1) := by decide +kernel
theorem dX7_init_191 : decode cX7_init 191 = .ok (.invokevirtual 52, 3) := by decide +kernel
theorem dX7_init_194 : decode cX7_init 194 = .ok (.aload_n 0, 1) := by decide +kernel
theorem dX7_init_195 : decode cX7_init 195 = .ok (.getfield 16, 3) := by decide +kernel
theorem dX7_init_198 : decode cX7_init 198 = .ok (.bipush 18, 2) := by decide +kernel
theorem dX7_init_200 : decode cX7_init 200 = .ok (.iconst 1, 1) := by decide +kernel
theorem dX7_init_201 : decode cX7_init 201 = .ok (.iastore, 1) := by decide +kernel
theorem dX7_init_202 : decode cX7_init 202 = .ok (.iconst 0, 1) := by decide +kernel
theorem dX7_init_203 : decode cX7_init 203 = .ok (.istore_n 1, 1) := by decide +kernel
theorem dX7_init_204 : decode cX7_init 204 = .ok (.iload_n 1, 1) := by decide +kernel
theorem dX7_init_205 : decode cX7_init 205 = .ok (.bipush 56, 2) := by decide +kernel
theorem dX7_init_207 : decode cX7_init 207 = .ok (.if_icmp .ge 21, 3) := by decide +kernel
theorem dX7_init_210 : decode cX7_init 210 = .ok (.aload_n 0, 1) := by decide +kernel
theorem dX7_init_211 : decode cX7_init 211 = .ok (.getfield 13, 3) := by decide +kernel
theorem dX7_init_214 : decode cX7_init 214 = .ok (.iload_n 1, 1) := by decide +kernel
theorem dX7_init_215 : decode cX7_init 215 = .ok (.aload_n 0, 1) := by decide +kernel
theorem dX7_init_216 : decode cX7_init 216 = .ok (.getfield 16, 3) := by decide +kernel
theorem dX7_init_219 : decode cX7_init 219 = .ok (.iload_n 1, 1) := by decide +kernel
theorem dX7_init_220 : decode cX7_init 220 = .ok (.iaload, 1) := by decide +kernel
theorem dX7_init_221 : decode cX7_init 221 = .ok (.iastore, 1) := by decide +kernel
theorem dX7_init_222 : decode cX7_init 222 = .ok (.iinc 1 1, 3) := by decide +kernel
theorem dX7_init_225 : decode cX7_init 225 = .ok (.goto (-21), 3) := by decide +kernel
theorem dX7_init_228 : decode cX7_init 228 = .ok (.return_, 1) := by decide +kernel
theorem dX7_in_0 : decode cX7_in 0 = .ok (.iload_n 0, 1) := by decide +kernel
theorem dX7_in_1 : decode cX7_in 1 = .ok (.iload_n 1, 1) := by decide +kernel
theorem dX7_in_2 : decode cX7_in 2 = .ok (.if_icmp .lt 12, 3) := by decide +kernel
theorem dX7_in_5 : decode cX7_in 5 = .ok (.iload_n 0, 1) := by decide +kernel
theorem dX7_in_6 : decode cX7_in 6 = .ok (.iload_n 2, 1) := by decide +kernel
theorem dX7_in_7 : decode cX7_in 7 = .ok (.if_icmp .gt 7, 3) := by decide +kernel
theorem dX7_in_10 : decode cX7_in 10 = .ok (.iconst 1, 1) := by decide +kernel
theorem dX7_in_11 : decode cX7_in 11 = .ok (.goto 4, 3) := by decide +kernel
theorem dX7_in_14 : decode cX7_in 14 = .ok (.iconst 0, 1) := by decide +kernel
theorem dX7_in_15 : decode cX7_in 15 = .ok (.ireturn, 1) := by decide +kernel
theorem dX7_has_0 : decode cX7_has 0 = .ok (.iload_n 0, 1) := by decide +kernel
theorem dX7_has_1 : decode cX7_has 1 = .ok (.iload_n 1, 1) := by decide +kernel
theorem dX7_has_2 : decode cX7_has 2 = .ok (.ishr, 1) := by decide +kernel
theorem dX7_has_3 : decode cX7_has 3 = .ok (.iconst 1, 1) := by decide +kernel
theorem dX7_has_4 : decode cX7_has 4 = .ok (.iand, 1) := by decide +kernel
theorem dX7_has_5 : decode cX7_has 5 = .ok (.iconst 1, 1) := by decide +kernel
theorem dX7_has_6 : decode cX7_has 6 = .ok (.if_icmp .ne 7, 3) := by decide +kernel
theorem dX7_has_9 : decode cX7_has 9 = .ok (.iconst 1, 1) := by decide +kernel
theorem dX7_has_10 : decode cX7_has 10 = .ok (.goto 4, 3) := by decide +kernel
theorem dX7_has_13 : decode cX7_has 13 = .ok (.iconst 0, 1) := by decide +kernel
theorem dX7_has_14 : decode cX7_has 14 = .ok (.ireturn, 1) := by decide +kernel
theorem dX7_ones_0 : decode cX7_ones 0 = .ok (.iconst 0, 1) := by decide +kernel
theorem dX7_ones_1 : decode cX7_ones 1 = .ok (.istore_n 1, 1) := by decide +kernel
theorem dX7_ones_2 : decode cX7_ones 2 = .ok (.iconst 0, 1) := by decide +kernel
theorem dX7_ones_3 : decode cX7_ones 3 = .ok (.istore_n 2, 1) := by decide +kernel
theorem dX7_ones_4 : decode cX7_ones 4 = .ok (.iload_n 2, 1) := by decide +kernel
theorem dX7_ones_5 : decode cX7_ones 5 = .ok (.bipush 7, 2) := by decide +kernel
theorem dX7_ones_7 : decode cX7_ones 7 = .ok (.if_icmp .ge 17, 3) := by decide +kernel
theorem dX7_ones_10 : decode cX7_ones 10 = .ok (.iload_n 1, 1) := by decide +kernel
theorem dX7_ones_11 : decode cX7_ones 11 = .ok (.iload_n 0, 1) := by decide +kernel
theorem dX7_ones_12 : decode cX7_ones 12 = .ok (.iload_n 2, 1) := by decide +kernel
theorem dX7_ones_13 : decode cX7_ones 13 = .ok (.ishr, 1) := by decide +kernel
theorem dX7_ones_14 : decode cX7_ones 14 = .ok (.iconst 1, 1) := by decide +kernel
theorem dX7_ones_15 : decode cX7_ones 15 = .ok (.iand, 1) := by decide +kernel
theorem dX7_ones_16 : decode cX7_ones 16 = .ok (.iadd, 1) := by decide +kernel
theorem dX7_ones_17 : decode cX7_ones 17 = .ok (.istore_n 1, 1) := by decide +kernel
theorem dX7_ones_18 : decode cX7_ones 18 = .ok (.iinc 2 1, 3) := by decide +kernel
theorem dX7_ones_21 : decode cX7_ones 21 = .ok (.goto (-17), 3) := by decide +kernel
theorem dX7_ones_24 : decode cX7_ones 24 = .ok (.iload_n 1, 1) := by decide +kernel
theorem dX7_ones_25 : decode cX7_ones 25 = .ok (.ireturn, 1) := by decide +kernel
theorem dX7_isPlot_0 : decode cX7_isPlot 0 = .ok (.iload_n 1, 1) := by decide +kernel
theorem dX7_isPlot_1 : decode cX7_isPlot 1 = .ok (.iconst 0, 1) := by decide +kernel
theorem dX7_isPlot_2 : decode cX7_isPlot 2 = .ok (.aload_n 0, 1) := by decide +kernel
theorem dX7_isPlot_3 : decode cX7_isPlot 3 = .ok (.getfield 13, 3) := by decide +kernel
theorem dX7_isPlot_6 : decode cX7_isPlot 6 = .ok (.iconst 0, 1) := by decide +kernel
theorem dX7_isPlot_7 : decode cX7_isPlot 7 = .ok (.iaload, 1) := by decide +kernel
theorem dX7_isPlot_8 : decode cX7_isPlot 8 = .ok (.iconst 1, 1) := by decide +kernel
theorem dX7_isPlot_9 : decode cX7_isPlot 9 = .ok (.isub, 1) := by decide +kernel
theorem dX7_isPlot_10 : decode cX7_isPlot 10 = .ok (.invokestatic 56, 3) := by decide +kernel
theorem dX7_isPlot_13 : decode cX7_isPlot 13 = .ok (.ireturn, 1) := by decide +kernel
theorem dX7_isHour_0 : decode cX7_isHour 0 = .ok (.iload_n 1, 1) := by decide +kernel
theorem dX7_isHour_1 : decode cX7_isHour 1 = .ok (.iconst 0, 1) := by decide +kernel
theorem dX7_isHour_2 : decode cX7_isHour 2 = .ok (.aload_n 0, 1) := by decide +kernel
theorem dX7_isHour_3 : decode cX7_isHour 3 = .ok (.getfield 13, 3) := by decide +kernel
theorem dX7_isHour_6 : decode cX7_isHour 6 = .ok (.iconst 1, 1) := by decide +kernel
theorem dX7_isHour_7 : decode cX7_isHour 7 = .ok (.iaload, 1) := by decide +kernel
theorem dX7_isHour_8 : decode cX7_isHour 8 = .ok (.iconst 1, 1) := by decide +kernel
theorem dX7_isHour_9 : decode cX7_isHour 9 = .ok (.isub, 1) := by decide +kernel
theorem dX7_isHour_10 : decode cX7_isHour 10 = .ok (.invokestatic 56, 3) := by decide +kernel
theorem dX7_isHour_13 : decode cX7_isHour 13 = .ok (.ireturn, 1) := by decide +kernel
theorem dX7_manyIn_0 : decode cX7_manyIn 0 = .ok (.iconst 0, 1) := by decide +kernel
theorem dX7_manyIn_1 : decode cX7_manyIn 1 = .ok (.istore_n 2, 1) := by decide +kernel
theorem dX7_manyIn_2 : decode cX7_manyIn 2 = .ok (.iconst 0, 1) := by decide +kernel
theorem dX7_manyIn_3 : decode cX7_manyIn 3 = .ok (.istore_n 3, 1) := by decide +kernel
theorem dX7_manyIn_4 : decode cX7_manyIn 4 = .ok (.iload_n 3, 1) := by decide +kernel
theorem dX7_manyIn_5 : decode cX7_manyIn 5 = .ok (.bipush 7, 2) := by decide +kernel
theorem dX7_manyIn_7 : decode cX7_manyIn 7 = .ok (.if_icmp .ge 30, 3) := by decide +kernel
theorem dX7_manyIn_10 : decode cX7_manyIn 10 = .ok (.iload_n 2, 1) := by decide +kernel
theorem dX7_manyIn_11 : decode cX7_manyIn 11 = .ok (.aload_n 0, 1) := by decide +kernel
theorem dX7_manyIn_12 : decode cX7_manyIn 12 = .ok (.getfield 19, 3) := by decide +kernel
theorem dX7_manyIn_15 : decode cX7_manyIn 15 = .ok (.bipush 7, 2) := by decide +kernel
theorem dX7_manyIn_17 : decode cX7_manyIn 17 = .ok (.iload_n 3, 1) := by decide +kernel
theorem dX7_manyIn_18 : decode cX7_manyIn 18 = .ok (.iadd, 1) := by decide +kernel
theorem dX7_manyIn_19 : decode cX7_manyIn 19 = .ok (.iaload, 1) := by decide +kernel
theorem dX7_manyIn_20 : decode cX7_manyIn 20 = .ok (.iload_n 1, 1) := by decide +kernel
theorem dX7_manyIn_21 : decode cX7_manyIn 21 = .ok (.if_icmp .ne 7, 3) := by decide +kernel
theorem dX7_manyIn_24 : decode cX7_manyIn 24 = .ok (.iconst 1, 1) := by decide +kernel
theorem dX7_manyIn_25 : decode cX7_manyIn 25 = .ok (.goto 4, 3) := by decide +kernel
theorem dX7_manyIn_28 : decode cX7_manyIn 28 = .ok (.iconst 0, 1) := by decide +kernel
theorem dX7_manyIn_29 : decode cX7_manyIn 29 = .ok (.iadd, 1) := by decide +kernel
theorem dX7_manyIn_30 : decode cX7_manyIn 30 = .ok (.istore_n 2, 1) := by decide +kernel
theorem dX7_manyIn_31 : decode cX7_manyIn 31 = .ok (.iinc 3 1, 3) := by decide +kernel
theorem dX7_manyIn_34 : decode cX7_manyIn 34 = .ok (.goto (-30), 3) := by decide +kernel
theorem dX7_manyIn_37 : decode cX7_manyIn 37 = .ok (.iload_n 2, 1) := by decide +kernel
theorem dX7_manyIn_38 : decode cX7_manyIn 38 = .ok (.ireturn, 1) := by decide +kernel
theorem dX7_lying_0 : decode cX7_lying 0 = .ok (.bipush (-4), 2) := by decide +kernel
theorem dX7_lying_2 : decode cX7_lying 2 = .ok (.istore_n 3, 1) := by decide +kernel
theorem dX7_lying_3 : decode cX7_lying 3 = .ok (.iconst 0, 1) := by decide +kernel
theorem dX7_lying_4 : decode cX7_lying 4 = .ok (.istore 4, 2) := by decide +kernel
theorem dX7_lying_6 : decode cX7_lying 6 = .ok (.iload 4, 2) := by decide +kernel
theorem dX7_lying_8 : decode cX7_lying 8 = .ok (.bipush 7, 2) := by decide +kernel
theorem dX7_lying_10 : decode cX7_lying 10 = .ok (.if_icmp .ge 44, 3) := by decide +kernel
theorem dX7_lying_13 : decode cX7_lying 13 = .ok (.aload_n 0, 1) := by decide +kernel
theorem dX7_lying_14 : decode cX7_lying 14 = .ok (.getfield 19, 3) := by decide +kernel
theorem dX7_lying_17 : decode cX7_lying 17 = .ok (.bipush 7, 2) := by decide +kernel
theorem dX7_lying_19 : decode cX7_lying 19 = .ok (.iload 4, 2) := by decide +kernel
theorem dX7_lying_21 : decode cX7_lying 21 = .ok (.iadd, 1) := by decide +kernel
theorem dX7_lying_22 : decode cX7_lying 22 = .ok (.iaload, 1) := by decide +kernel
theorem dX7_lying_23 : decode cX7_lying 23 = .ok (.iload_n 1, 1) := by decide +kernel
theorem dX7_lying_24 : decode cX7_lying 24 = .ok (.if_icmp .ne 22, 3) := by decide +kernel
theorem dX7_lying_27 : decode cX7_lying 27 = .ok (.aload_n 0, 1) := by decide +kernel
theorem dX7_lying_28 : decode cX7_lying 28 = .ok (.getfield 19, 3) := by decide +kernel
theorem dX7_lying_31 : decode cX7_lying 31 = .ok (.bipush 14, 2) := by decide +kernel
theorem dX7_lying_33 : decode cX7_lying 33 = .ok (.iload 4, 2) := by decide +kernel
theorem dX7_lying_35 : decode cX7_lying 35 = .ok (.iadd, 1) := by decide +kernel
theorem dX7_lying_36 : decode cX7_lying 36 = .ok (.iaload, 1) := by decide +kernel
theorem dX7_lying_37 : decode cX7_lying 37 = .ok (.iload_n 2, 1) := by decide +kernel
theorem dX7_lying_38 : decode cX7_lying 38 = .ok (.if_icmp .ne 8, 3) := by decide +kernel
theorem dX7_lying_41 : decode cX7_lying 41 = .ok (.iload 4, 2) := by decide +kernel
theorem dX7_lying_43 : decode cX7_lying 43 = .ok (.goto 4, 3) := by decide +kernel
theorem dX7_lying_46 : decode cX7_lying 46 = .ok (.iload_n 3, 1) := by decide +kernel
theorem dX7_lying_47 : decode cX7_lying 47 = .ok (.istore_n 3, 1) := by decide +kernel
theorem dX7_lying_48 : decode cX7_lying 48 = .ok (.iinc 4 1, 3) := by decide +kernel
theorem dX7_lying_51 : decode cX7_lying 51 = .ok (.goto (-45), 3) := by decide +kernel
theorem dX7_lying_54 : decode cX7_lying 54 = .ok (.iload_n 3, 1) := by decide +kernel
theorem dX7_lying_55 : decode cX7_lying 55 = .ok (.ireturn, 1) := by decide +kernel
theorem dX7_topOf_0 : decode cX7_topOf 0 = .ok (.aload_n 0, 1) := by decide +kernel
theorem dX7_topOf_1 : decode cX7_topOf 1 = .ok (.iload_n 1, 1) := by decide +kernel
theorem dX7_topOf_2 : decode cX7_topOf 2 = .ok (.aload_n 0, 1) := by decide +kernel
theorem dX7_topOf_3 : decode cX7_topOf 3 = .ok (.iload_n 1, 1) := by decide +kernel
theorem dX7_topOf_4 : decode cX7_topOf 4 = .ok (.invokevirtual 60, 3) := by decide +kernel
theorem dX7_topOf_7 : decode cX7_topOf 7 = .ok (.iconst 1, 1) := by decide +kernel
theorem dX7_topOf_8 : decode cX7_topOf 8 = .ok (.isub, 1) := by decide +kernel
theorem dX7_topOf_9 : decode cX7_topOf 9 = .ok (.invokevirtual 64, 3) := by decide +kernel
theorem dX7_topOf_12 : decode cX7_topOf 12 = .ok (.ireturn, 1) := by decide +kernel
theorem dX7_needs_0 : decode cX7_needs 0 = .ok (.iload_n 0, 1) := by decide +kernel
theorem dX7_needs_1 : decode cX7_needs 1 = .ok (.iconst 1, 1) := by decide +kernel
theorem dX7_needs_2 : decode cX7_needs 2 = .ok (.if_icmp .ne 7, 3) := by decide +kernel
theorem dX7_needs_5 : decode cX7_needs 5 = .ok (.iconst 2, 1) := by decide +kernel
theorem dX7_needs_6 : decode cX7_needs 6 = .ok (.goto 18, 3) := by decide +kernel
theorem dX7_needs_9 : decode cX7_needs 9 = .ok (.iload_n 0, 1) := by decide +kernel
theorem dX7_needs_10 : decode cX7_needs 10 = .ok (.iconst 2, 1) := by decide +kernel
theorem dX7_needs_11 : decode cX7_needs 11 = .ok (.if_icmp .ne 12, 3) := by decide +kernel
theorem dX7_needs_14 : decode cX7_needs 14 = .ok (.iload_n 1, 1) := by decide +kernel
theorem dX7_needs_15 : decode cX7_needs 15 = .ok (.iconst 2, 1) := by decide +kernel
theorem dX7_needs_16 : decode cX7_needs 16 = .ok (.if_icmp .ne 7, 3) := by decide +kernel
theorem dX7_needs_19 : decode cX7_needs 19 = .ok (.iconst 0, 1) := by decide +kernel
theorem dX7_needs_20 : decode cX7_needs 20 = .ok (.goto 4, 3) := by decide +kernel
theorem dX7_needs_23 : decode cX7_needs 23 = .ok (.iconst 1, 1) := by decide +kernel
theorem dX7_needs_24 : decode cX7_needs 24 = .ok (.ireturn, 1) := by decide +kernel
theorem dX7_kindOf_0 : decode cX7_kindOf 0 = .ok (.iload_n 1, 1) := by decide +kernel
theorem dX7_kindOf_1 : decode cX7_kindOf 1 = .ok (.bipush (-4), 2) := by decide +kernel
theorem dX7_kindOf_3 : decode cX7_kindOf 3 = .ok (.if_icmp .ne 8, 3) := by decide +kernel
theorem dX7_kindOf_6 : decode cX7_kindOf 6 = .ok (.bipush (-4), 2) := by decide +kernel
theorem dX7_kindOf_8 : decode cX7_kindOf 8 = .ok (.goto 26, 3) := by decide +kernel
theorem dX7_kindOf_11 : decode cX7_kindOf 11 = .ok (.iload_n 2, 1) := by decide +kernel
theorem dX7_kindOf_12 : decode cX7_kindOf 12 = .ok (.ifCond .eq 14, 3) := by decide +kernel
theorem dX7_kindOf_15 : decode cX7_kindOf 15 = .ok (.aload_n 0, 1) := by decide +kernel
theorem dX7_kindOf_16 : decode cX7_kindOf 16 = .ok (.getfield 16, 3) := by decide +kernel
theorem dX7_kindOf_19 : decode cX7_kindOf 19 = .ok (.iconst 2, 1) := by decide +kernel
theorem dX7_kindOf_20 : decode cX7_kindOf 20 = .ok (.iload_n 1, 1) := by decide +kernel
theorem dX7_kindOf_21 : decode cX7_kindOf 21 = .ok (.iadd, 1) := by decide +kernel
theorem dX7_kindOf_22 : decode cX7_kindOf 22 = .ok (.iaload, 1) := by decide +kernel
theorem dX7_kindOf_23 : decode cX7_kindOf 23 = .ok (.goto 11, 3) := by decide +kernel
theorem dX7_kindOf_26 : decode cX7_kindOf 26 = .ok (.aload_n 0, 1) := by decide +kernel
theorem dX7_kindOf_27 : decode cX7_kindOf 27 = .ok (.getfield 13, 3) := by decide +kernel
theorem dX7_kindOf_30 : decode cX7_kindOf 30 = .ok (.iconst 2, 1) := by decide +kernel
theorem dX7_kindOf_31 : decode cX7_kindOf 31 = .ok (.iload_n 1, 1) := by decide +kernel
theorem dX7_kindOf_32 : decode cX7_kindOf 32 = .ok (.iadd, 1) := by decide +kernel
theorem dX7_kindOf_33 : decode cX7_kindOf 33 = .ok (.iaload, 1) := by decide +kernel
theorem dX7_kindOf_34 : decode cX7_kindOf 34 = .ok (.ireturn, 1) := by decide +kernel
theorem dX7_allNeeds_0 : decode cX7_allNeeds 0 = .ok (.iconst 0, 1) := by decide +kernel
theorem dX7_allNeeds_1 : decode cX7_allNeeds 1 = .ok (.istore_n 3, 1) := by decide +kernel
theorem dX7_allNeeds_2 : decode cX7_allNeeds 2 = .ok (.bipush (-4), 2) := by decide +kernel
theorem dX7_allNeeds_4 : decode cX7_allNeeds 4 = .ok (.istore 4, 2) := by decide +kernel
theorem dX7_allNeeds_6 : decode cX7_allNeeds 6 = .ok (.iconst 0, 1) := by decide +kernel
theorem dX7_allNeeds_7 : decode cX7_allNeeds 7 = .ok (.istore 5, 2) := by decide +kernel
theorem dX7_allNeeds_9 : decode cX7_allNeeds 9 = .ok (.iload 5, 2) := by decide +kernel
theorem dX7_allNeeds_11 : decode cX7_allNeeds 11 = .ok (.aload_n 0, 1) := by decide +kernel
theorem dX7_allNeeds_12 : decode cX7_allNeeds 12 = .ok (.iload_n 1, 1) := by decide +kernel
theorem dX7_allNeeds_13 : decode cX7_allNeeds 13 = .ok (.invokevirtual 60, 3) := by decide +kernel
theorem dX7_allNeeds_16 : decode cX7_allNeeds 16 = .ok (.if_icmp .ge 37, 3) := by decide +kernel
theorem dX7_allNeeds_19 : decode cX7_allNeeds 19 = .ok (.aload_n 0, 1) := by decide +kernel
theorem dX7_allNeeds_20 : decode cX7_allNeeds 20 = .ok (.aload_n 0, 1) := by decide +kernel
theorem dX7_allNeeds_21 : decode cX7_allNeeds 21 = .ok (.iload_n 1, 1) := by decide +kernel
theorem dX7_allNeeds_22 : decode cX7_allNeeds 22 = .ok (.iload 5, 2) := by decide +kernel
theorem dX7_allNeeds_24 : decode cX7_allNeeds 24 = .ok (.invokevirtual 64, 3) := by decide +kernel
theorem dX7_allNeeds_27 : decode cX7_allNeeds 27 = .ok (.iload_n 2, 1) := by decide +kernel
theorem dX7_allNeeds_28 : decode cX7_allNeeds 28 = .ok (.invokevirtual 68, 3) := by decide +kernel
theorem dX7_allNeeds_31 : decode cX7_allNeeds 31 = .ok (.istore 6, 2) := by decide +kernel
theorem dX7_allNeeds_33 : decode cX7_allNeeds 33 = .ok (.iload_n 3, 1) := by decide +kernel
theorem dX7_allNeeds_34 : decode cX7_allNeeds 34 = .ok (.iload 6, 2) := by decide +kernel
theorem dX7_allNeeds_36 : decode cX7_allNeeds 36 = .ok (.iload 4, 2) := by decide +kernel
theorem dX7_allNeeds_38 : decode cX7_allNeeds 38 = .ok (.invokestatic 72, 3) := by decide +kernel
theorem dX7_allNeeds_41 : decode cX7_allNeeds 41 = .ok (.iadd, 1) := by decide +kernel
theorem dX7_allNeeds_42 : decode cX7_allNeeds 42 = .ok (.istore_n 3, 1) := by decide +kernel
theorem dX7_allNeeds_43 : decode cX7_allNeeds 43 = .ok (.iload 6, 2) := by decide +kernel
theorem dX7_allNeeds_45 : decode cX7_allNeeds 45 = .ok (.istore 4, 2) := by decide +kernel
theorem dX7_allNeeds_47 : decode cX7_allNeeds 47 = .ok (.iinc 5 1, 3) := by decide +kernel
theorem dX7_allNeeds_50 : decode cX7_allNeeds 50 = .ok (.goto (-41), 3) := by decide +kernel
theorem dX7_allNeeds_53 : decode cX7_allNeeds 53 = .ok (.iload_n 3, 1) := by decide +kernel
theorem dX7_allNeeds_54 : decode cX7_allNeeds 54 = .ok (.ireturn, 1) := by decide +kernel
theorem dX7_isFit_0 : decode cX7_isFit 0 = .ok (.aload_n 0, 1) := by decide +kernel
theorem dX7_isFit_1 : decode cX7_isFit 1 = .ok (.aload_n 0, 1) := by decide +kernel
theorem dX7_isFit_2 : decode cX7_isFit 2 = .ok (.iload_n 2, 1) := by decide +kernel
theorem dX7_isFit_3 : decode cX7_isFit 3 = .ok (.invokevirtual 75, 3) := by decide +kernel
theorem dX7_isFit_6 : decode cX7_isFit 6 = .ok (.iload_n 3, 1) := by decide +kernel
theorem dX7_isFit_7 : decode cX7_isFit 7 = .ok (.invokevirtual 68, 3) := by decide +kernel
theorem dX7_isFit_10 : decode cX7_isFit 10 = .ok (.istore 4, 2) := by decide +kernel
theorem dX7_isFit_12 : decode cX7_isFit 12 = .ok (.iload 4, 2) := by decide +kernel
theorem dX7_isFit_14 : decode cX7_isFit 14 = .ok (.iconst 3, 1) := by decide +kernel
theorem dX7_isFit_15 : decode cX7_isFit 15 = .ok (.if_icmp .eq 31, 3) := by decide +kernel
theorem dX7_isFit_18 : decode cX7_isFit 18 = .ok (.aload_n 0, 1) := by decide +kernel
theorem dX7_isFit_19 : decode cX7_isFit 19 = .ok (.iload_n 2, 1) := by decide +kernel
theorem dX7_isFit_20 : decode cX7_isFit 20 = .ok (.iload_n 3, 1) := by decide +kernel
theorem dX7_isFit_21 : decode cX7_isFit 21 = .ok (.invokevirtual 78, 3) := by decide +kernel
theorem dX7_isFit_24 : decode cX7_isFit 24 = .ok (.iload_n 1, 1) := by decide +kernel
theorem dX7_isFit_25 : decode cX7_isFit 25 = .ok (.iload 4, 2) := by decide +kernel
theorem dX7_isFit_27 : decode cX7_isFit 27 = .ok (.invokestatic 72, 3) := by decide +kernel
theorem dX7_isFit_30 : decode cX7_isFit 30 = .ok (.iadd, 1) := by decide +kernel
theorem dX7_isFit_31 : decode cX7_isFit 31 = .ok (.aload_n 0, 1) := by decide +kernel
theorem dX7_isFit_32 : decode cX7_isFit 32 = .ok (.getfield 19, 3) := by decide +kernel
theorem dX7_isFit_35 : decode cX7_isFit 35 = .ok (.iconst 2, 1) := by decide +kernel
theorem dX7_isFit_36 : decode cX7_isFit 36 = .ok (.iload_n 2, 1) := by decide +kernel
theorem dX7_isFit_37 : decode cX7_isFit 37 = .ok (.iadd, 1) := by decide +kernel
theorem dX7_isFit_38 : decode cX7_isFit 38 = .ok (.iaload, 1) := by decide +kernel
theorem dX7_isFit_39 : decode cX7_isFit 39 = .ok (.if_icmp .gt 7, 3) := by decide +kernel
theorem dX7_isFit_42 : decode cX7_isFit 42 = .ok (.iconst 1, 1) := by decide +kernel
theorem dX7_isFit_43 : decode cX7_isFit 43 = .ok (.goto 4, 3) := by decide +kernel
theorem dX7_isFit_46 : decode cX7_isFit 46 = .ok (.iconst 0, 1) := by decide +kernel
theorem dX7_isFit_47 : decode cX7_isFit 47 = .ok (.ireturn, 1) := by decide +kernel
theorem dX7_lays_0 : decode cX7_lays 0 = .ok (.iload_n 2, 1) := by decide +kernel
theorem dX7_lays_1 : decode cX7_lays 1 = .ok (.iconst (-1), 1) := by decide +kernel
theorem dX7_lays_2 : decode cX7_lays 2 = .ok (.if_icmp .ne 7, 3) := by decide +kernel
theorem dX7_lays_5 : decode cX7_lays 5 = .ok (.iconst 0, 1) := by decide +kernel
theorem dX7_lays_6 : decode cX7_lays 6 = .ok (.goto 8, 3) := by decide +kernel
theorem dX7_lays_9 : decode cX7_lays 9 = .ok (.aload_n 0, 1) := by decide +kernel
theorem dX7_lays_10 : decode cX7_lays 10 = .ok (.iload_n 2, 1) := by decide +kernel
theorem dX7_lays_11 : decode cX7_lays 11 = .ok (.invokevirtual 60, 3) := by decide +kernel
theorem dX7_lays_14 : decode cX7_lays 14 = .ok (.istore_n 3, 1) := by decide +kernel
theorem dX7_lays_15 : decode cX7_lays 15 = .ok (.aload_n 0, 1) := by decide +kernel
theorem dX7_lays_16 : decode cX7_lays 16 = .ok (.getfield 19, 3) := by decide +kernel
theorem dX7_lays_19 : decode cX7_lays 19 = .ok (.bipush 7, 2) := by decide +kernel
theorem dX7_lays_21 : decode cX7_lays 21 = .ok (.iload_n 1, 1) := by decide +kernel
theorem dX7_lays_22 : decode cX7_lays 22 = .ok (.iadd, 1) := by decide +kernel
theorem dX7_lays_23 : decode cX7_lays 23 = .ok (.iload_n 2, 1) := by decide +kernel
theorem dX7_lays_24 : decode cX7_lays 24 = .ok (.iastore, 1) := by decide +kernel
theorem dX7_lays_25 : decode cX7_lays 25 = .ok (.aload_n 0, 1) := by decide +kernel
theorem dX7_lays_26 : decode cX7_lays 26 = .ok (.getfield 19, 3) := by decide +kernel
theorem dX7_lays_29 : decode cX7_lays 29 = .ok (.bipush 14, 2) := by decide +kernel
theorem dX7_lays_31 : decode cX7_lays 31 = .ok (.iload_n 1, 1) := by decide +kernel
theorem dX7_lays_32 : decode cX7_lays 32 = .ok (.iadd, 1) := by decide +kernel
theorem dX7_lays_33 : decode cX7_lays 33 = .ok (.iload_n 3, 1) := by decide +kernel
theorem dX7_lays_34 : decode cX7_lays 34 = .ok (.iastore, 1) := by decide +kernel
theorem dX7_lays_35 : decode cX7_lays 35 = .ok (.return_, 1) := by decide +kernel
theorem dX7_takes_0 : decode cX7_takes 0 = .ok (.aload_n 0, 1) := by decide +kernel
theorem dX7_takes_1 : decode cX7_takes 1 = .ok (.getfield 19, 3) := by decide +kernel
theorem dX7_takes_4 : decode cX7_takes 4 = .ok (.bipush 7, 2) := by decide +kernel
theorem dX7_takes_6 : decode cX7_takes 6 = .ok (.iload_n 1, 1) := by decide +kernel
theorem dX7_takes_7 : decode cX7_takes 7 = .ok (.iadd, 1) := by decide +kernel
theorem dX7_takes_8 : decode cX7_takes 8 = .ok (.iaload, 1) := by decide +kernel
theorem dX7_takes_9 : decode cX7_takes 9 = .ok (.istore_n 2, 1) := by decide +kernel
theorem dX7_takes_10 : decode cX7_takes 10 = .ok (.iconst 0, 1) := by decide +kernel
theorem dX7_takes_11 : decode cX7_takes 11 = .ok (.istore_n 3, 1) := by decide +kernel
theorem dX7_takes_12 : decode cX7_takes 12 = .ok (.iconst 0, 1) := by decide +kernel
theorem dX7_takes_13 : decode cX7_takes 13 = .ok (.istore 4, 2) := by decide +kernel
theorem dX7_takes_15 : decode cX7_takes 15 = .ok (.iload 4, 2) := by decide +kernel
theorem dX7_takes_17 : decode cX7_takes 17 = .ok (.bipush 7, 2) := by decide +kernel
theorem dX7_takes_19 : decode cX7_takes 19 = .ok (.if_icmp .ge 93, 3) := by decide +kernel
theorem dX7_takes_22 : decode cX7_takes 22 = .ok (.iload_n 2, 1) := by decide +kernel
theorem dX7_takes_23 : decode cX7_takes 23 = .ok (.iconst (-1), 1) := by decide +kernel
theorem dX7_takes_24 : decode cX7_takes 24 = .ok (.if_icmp .eq 88, 3) := by decide +kernel
theorem dX7_takes_27 : decode cX7_takes 27 = .ok (.aload_n 0, 1) := by decide +kernel
theorem dX7_takes_28 : decode cX7_takes 28 = .ok (.getfield 19, 3) := by decide +kernel
theorem dX7_takes_31 : decode cX7_takes 31 = .ok (.bipush 7, 2) := by decide +kernel
theorem dX7_takes_33 : decode cX7_takes 33 = .ok (.iload 4, 2) := by decide +kernel
theorem dX7_takes_35 : decode cX7_takes 35 = .ok (.iadd, 1) := by decide +kernel
theorem dX7_takes_36 : decode cX7_takes 36 = .ok (.iaload, 1) := by decide +kernel
theorem dX7_takes_37 : decode cX7_takes 37 = .ok (.iload_n 2, 1) := by decide +kernel
theorem dX7_takes_38 : decode cX7_takes 38 = .ok (.if_icmp .ne 29, 3) := by decide +kernel
theorem dX7_takes_41 : decode cX7_takes 41 = .ok (.aload_n 0, 1) := by decide +kernel
theorem dX7_takes_42 : decode cX7_takes 42 = .ok (.getfield 19, 3) := by decide +kernel
theorem dX7_takes_45 : decode cX7_takes 45 = .ok (.bipush 14, 2) := by decide +kernel
theorem dX7_takes_47 : decode cX7_takes 47 = .ok (.iload 4, 2) := by decide +kernel
theorem dX7_takes_49 : decode cX7_takes 49 = .ok (.iadd, 1) := by decide +kernel
theorem dX7_takes_50 : decode cX7_takes 50 = .ok (.iaload, 1) := by decide +kernel
theorem dX7_takes_51 : decode cX7_takes 51 = .ok (.aload_n 0, 1) := by decide +kernel
theorem dX7_takes_52 : decode cX7_takes 52 = .ok (.getfield 19, 3) := by decide +kernel
theorem dX7_takes_55 : decode cX7_takes 55 = .ok (.bipush 14, 2) := by decide +kernel
theorem dX7_takes_57 : decode cX7_takes 57 = .ok (.iload_n 1, 1) := by decide +kernel
theorem dX7_takes_58 : decode cX7_takes 58 = .ok (.iadd, 1) := by decide +kernel
theorem dX7_takes_59 : decode cX7_takes 59 = .ok (.iaload, 1) := by decide +kernel
theorem dX7_takes_60 : decode cX7_takes 60 = .ok (.if_icmp .le 7, 3) := by decide +kernel
theorem dX7_takes_63 : decode cX7_takes 63 = .ok (.iconst 1, 1) := by decide +kernel
theorem dX7_takes_64 : decode cX7_takes 64 = .ok (.goto 4, 3) := by decide +kernel
theorem dX7_takes_67 : decode cX7_takes 67 = .ok (.iconst 0, 1) := by decide +kernel
theorem dX7_takes_68 : decode cX7_takes 68 = .ok (.istore 5, 2) := by decide +kernel
theorem dX7_takes_70 : decode cX7_takes 70 = .ok (.aload_n 0, 1) := by decide +kernel
theorem dX7_takes_71 : decode cX7_takes 71 = .ok (.getfield 19, 3) := by decide +kernel
theorem dX7_takes_74 : decode cX7_takes 74 = .ok (.bipush 14, 2) := by decide +kernel
theorem dX7_takes_76 : decode cX7_takes 76 = .ok (.iload 4, 2) := by decide +kernel
theorem dX7_takes_78 : decode cX7_takes 78 = .ok (.iadd, 1) := by decide +kernel
theorem dX7_takes_79 : decode cX7_takes 79 = .ok (.dup2, 1) := by decide +kernel
theorem dX7_takes_80 : decode cX7_takes 80 = .ok (.iaload, 1) := by decide +kernel
theorem dX7_takes_81 : decode cX7_takes 81 = .ok (.iload 5, 2) := by decide +kernel
theorem dX7_takes_83 : decode cX7_takes 83 = .ok (.ifCond .eq 7, 3) := by decide +kernel
theorem dX7_takes_86 : decode cX7_takes 86 = .ok (.iconst 1, 1) := by decide +kernel
theorem dX7_takes_87 : decode cX7_takes 87 = .ok (.goto 4, 3) := by decide +kernel
theorem dX7_takes_90 : decode cX7_takes 90 = .ok (.iconst 0, 1) := by decide +kernel
theorem dX7_takes_91 : decode cX7_takes 91 = .ok (.isub, 1) := by decide +kernel
theorem dX7_takes_92 : decode cX7_takes 92 = .ok (.iastore, 1) := by decide +kernel
theorem dX7_takes_93 : decode cX7_takes 93 = .ok (.iload_n 3, 1) := by decide +kernel
theorem dX7_takes_94 : decode cX7_takes 94 = .ok (.iload 5, 2) := by decide +kernel
theorem dX7_takes_96 : decode cX7_takes 96 = .ok (.ifCond .eq 7, 3) := by decide +kernel
theorem dX7_takes_99 : decode cX7_takes 99 = .ok (.iconst 1, 1) := by decide +kernel
theorem dX7_takes_100 : decode cX7_takes 100 = .ok (.goto 4, 3) := by decide +kernel
theorem dX7_takes_103 : decode cX7_takes 103 = .ok (.iconst 0, 1) := by decide +kernel
theorem dX7_takes_104 : decode cX7_takes 104 = .ok (.iadd, 1) := by decide +kernel
theorem dX7_takes_105 : decode cX7_takes 105 = .ok (.istore_n 3, 1) := by decide +kernel
theorem dX7_takes_106 : decode cX7_takes 106 = .ok (.iinc 4 1, 3) := by decide +kernel
theorem dX7_takes_109 : decode cX7_takes 109 = .ok (.goto (-94), 3) := by decide +kernel
theorem dX7_takes_112 : decode cX7_takes 112 = .ok (.aload_n 0, 1) := by decide +kernel
theorem dX7_takes_113 : decode cX7_takes 113 = .ok (.getfield 19, 3) := by decide +kernel
theorem dX7_takes_116 : decode cX7_takes 116 = .ok (.bipush 7, 2) := by decide +kernel
theorem dX7_takes_118 : decode cX7_takes 118 = .ok (.iload_n 1, 1) := by decide +kernel
theorem dX7_takes_119 : decode cX7_takes 119 = .ok (.iadd, 1) := by decide +kernel
theorem dX7_takes_120 : decode cX7_takes 120 = .ok (.iconst (-1), 1) := by decide +kernel
theorem dX7_takes_121 : decode cX7_takes 121 = .ok (.iastore, 1) := by decide +kernel
theorem dX7_takes_122 : decode cX7_takes 122 = .ok (.aload_n 0, 1) := by decide +kernel
theorem dX7_takes_123 : decode cX7_takes 123 = .ok (.getfield 19, 3) := by decide +kernel
theorem dX7_takes_126 : decode cX7_takes 126 = .ok (.bipush 14, 2) := by decide +kernel
theorem dX7_takes_128 : decode cX7_takes 128 = .ok (.iload_n 1, 1) := by decide +kernel
theorem dX7_takes_129 : decode cX7_takes 129 = .ok (.iadd, 1) := by decide +kernel
theorem dX7_takes_130 : decode cX7_takes 130 = .ok (.iconst 0, 1) := by decide +kernel
theorem dX7_takes_131 : decode cX7_takes 131 = .ok (.iastore, 1) := by decide +kernel
theorem dX7_takes_132 : decode cX7_takes 132 = .ok (.iload_n 3, 1) := by decide +kernel
theorem dX7_takes_133 : decode cX7_takes 133 = .ok (.ireturn, 1) := by decide +kernel
theorem dX7_write_0 : decode cX7_write 0 = .ok (.iload_n 1, 1) := by decide +kernel
theorem dX7_write_1 : decode cX7_write 1 = .ok (.bipush 32, 2) := by decide +kernel
theorem dX7_write_3 : decode cX7_write 3 = .ok (.bipush 126, 2) := by decide +kernel
theorem dX7_write_5 : decode cX7_write 5 = .ok (.invokestatic 56, 3) := by decide +kernel
theorem dX7_write_8 : decode cX7_write 8 = .ok (.ifCond .ne 5, 3) := by decide +kernel
theorem dX7_write_11 : decode cX7_write 11 = .ok (.iconst (-1), 1) := by decide +kernel
theorem dX7_write_12 : decode cX7_write 12 = .ok (.ireturn, 1) := by decide +kernel
theorem dX7_write_13 : decode cX7_write 13 = .ok (.aload_n 0, 1) := by decide +kernel
theorem dX7_write_14 : decode cX7_write 14 = .ok (.getfield 81, 3) := by decide +kernel
theorem dX7_write_17 : decode cX7_write 17 = .ok (.sipush 200, 3) := by decide +kernel
theorem dX7_write_20 : decode cX7_write 20 = .ok (.if_icmp .ne 6, 3) := by decide +kernel
theorem dX7_write_23 : decode cX7_write 23 = .ok (.bipush (-3), 2) := by decide +kernel
theorem dX7_write_25 : decode cX7_write 25 = .ok (.ireturn, 1) := by decide +kernel
theorem dX7_write_26 : decode cX7_write 26 = .ok (.aload_n 0, 1) := by decide +kernel
theorem dX7_write_27 : decode cX7_write 27 = .ok (.getfield 7, 3) := by decide +kernel
theorem dX7_write_30 : decode cX7_write 30 = .ok (.aload_n 0, 1) := by decide +kernel
theorem dX7_write_31 : decode cX7_write 31 = .ok (.getfield 81, 3) := by decide +kernel
theorem dX7_write_34 : decode cX7_write 34 = .ok (.iload_n 1, 1) := by decide +kernel
theorem dX7_write_35 : decode cX7_write 35 = .ok (.iastore, 1) := by decide +kernel
theorem dX7_write_36 : decode cX7_write 36 = .ok (.aload_n 0, 1) := by decide +kernel
theorem dX7_write_37 : decode cX7_write 37 = .ok (.dup, 1) := by decide +kernel
theorem dX7_write_38 : decode cX7_write 38 = .ok (.getfield 81, 3) := by decide +kernel
theorem dX7_write_41 : decode cX7_write 41 = .ok (.iconst 1, 1) := by decide +kernel
theorem dX7_write_42 : decode cX7_write 42 = .ok (.iadd, 1) := by decide +kernel
theorem dX7_write_43 : decode cX7_write 43 = .ok (.putfield 81, 3) := by decide +kernel
theorem dX7_write_46 : decode cX7_write 46 = .ok (.aload_n 0, 1) := by decide +kernel
theorem dX7_write_47 : decode cX7_write 47 = .ok (.getfield 81, 3) := by decide +kernel
theorem dX7_write_50 : decode cX7_write 50 = .ok (.ireturn, 1) := by decide +kernel
theorem dX7_wipe_0 : decode cX7_wipe 0 = .ok (.aload_n 0, 1) := by decide +kernel
theorem dX7_wipe_1 : decode cX7_wipe 1 = .ok (.getfield 81, 3) := by decide +kernel
theorem dX7_wipe_4 : decode cX7_wipe 4 = .ok (.istore_n 1, 1) := by decide +kernel
theorem dX7_wipe_5 : decode cX7_wipe 5 = .ok (.aload_n 0, 1) := by decide +kernel
theorem dX7_wipe_6 : decode cX7_wipe 6 = .ok (.iconst 0, 1) := by decide +kernel
theorem dX7_wipe_7 : decode cX7_wipe 7 = .ok (.putfield 81, 3) := by decide +kernel
theorem dX7_wipe_10 : decode cX7_wipe 10 = .ok (.iload_n 1, 1) := by decide +kernel
theorem dX7_wipe_11 : decode cX7_wipe 11 = .ok (.ireturn, 1) := by decide +kernel
theorem dX7_letterAt_0 : decode cX7_letterAt 0 = .ok (.iload_n 1, 1) := by decide +kernel
theorem dX7_letterAt_1 : decode cX7_letterAt 1 = .ok (.aload_n 0, 1) := by decide +kernel
theorem dX7_letterAt_2 : decode cX7_letterAt 2 = .ok (.getfield 81, 3) := by decide +kernel
theorem dX7_letterAt_5 : decode cX7_letterAt 5 = .ok (.if_icmp .ge 12, 3) := by decide +kernel
theorem dX7_letterAt_8 : decode cX7_letterAt 8 = .ok (.aload_n 0, 1) := by decide +kernel
theorem dX7_letterAt_9 : decode cX7_letterAt 9 = .ok (.getfield 7, 3) := by decide +kernel
theorem dX7_letterAt_12 : decode cX7_letterAt 12 = .ok (.iload_n 1, 1) := by decide +kernel
theorem dX7_letterAt_13 : decode cX7_letterAt 13 = .ok (.iaload, 1) := by decide +kernel
theorem dX7_letterAt_14 : decode cX7_letterAt 14 = .ok (.goto 4, 3) := by decide +kernel
theorem dX7_letterAt_17 : decode cX7_letterAt 17 = .ok (.iconst (-1), 1) := by decide +kernel
theorem dX7_letterAt_18 : decode cX7_letterAt 18 = .ok (.ireturn, 1) := by decide +kernel
theorem dX7_isFigure_0 : decode cX7_isFigure 0 = .ok (.iload_n 0, 1) := by decide +kernel
theorem dX7_isFigure_1 : decode cX7_isFigure 1 = .ok (.bipush 48, 2) := by decide +kernel
theorem dX7_isFigure_3 : decode cX7_isFigure 3 = .ok (.bipush 57, 2) := by decide +kernel
theorem dX7_isFigure_5 : decode cX7_isFigure 5 = .ok (.invokestatic 56, 3) := by decide +kernel
theorem dX7_isFigure_8 : decode cX7_isFigure 8 = .ok (.ireturn, 1) := by decide +kernel
theorem dX7_number_0 : decode cX7_number 0 = .ok (.aload_n 0, 1) := by decide +kernel
theorem dX7_number_1 : decode cX7_number 1 = .ok (.aload_n 0, 1) := by decide +kernel
theorem dX7_number_2 : decode cX7_number 2 = .ok (.getfield 85, 3) := by decide +kernel
theorem dX7_number_5 : decode cX7_number 5 = .ok (.invokevirtual 88, 3) := by decide +kernel
theorem dX7_number_8 : decode cX7_number 8 = .ok (.invokestatic 91, 3) := by decide +kernel
theorem dX7_number_11 : decode cX7_number 11 = .ok (.ifCond .ne 5, 3) := by decide +kernel
theorem dX7_number_14 : decode cX7_number 14 = .ok (.iconst (-1), 1) := by decide +kernel
theorem dX7_number_15 : decode cX7_number 15 = .ok (.ireturn, 1) := by decide +kernel
theorem dX7_number_16 : decode cX7_number 16 = .ok (.aload_n 0, 1) := by decide +kernel
theorem dX7_number_17 : decode cX7_number 17 = .ok (.aload_n 0, 1) := by decide +kernel
theorem dX7_number_18 : decode cX7_number 18 = .ok (.getfield 85, 3) := by decide +kernel
theorem dX7_number_21 : decode cX7_number 21 = .ok (.invokevirtual 88, 3) := by decide +kernel
theorem dX7_number_24 : decode cX7_number 24 = .ok (.bipush 48, 2) := by decide +kernel
theorem dX7_number_26 : decode cX7_number 26 = .ok (.isub, 1) := by decide +kernel
theorem dX7_number_27 : decode cX7_number 27 = .ok (.istore 4, 2) := by decide +kernel
theorem dX7_number_29 : decode cX7_number 29 = .ok (.aload_n 0, 1) := by decide +kernel
theorem dX7_number_30 : decode cX7_number 30 = .ok (.dup, 1) := by decide +kernel
theorem dX7_number_31 : decode cX7_number 31 = .ok (.getfield 85, 3) := by decide +kernel
theorem dX7_number_34 : decode cX7_number 34 = .ok (.iconst 1, 1) := by decide +kernel
theorem dX7_number_35 : decode cX7_number 35 = .ok (.iadd, 1) := by decide +kernel
theorem dX7_number_36 : decode cX7_number 36 = .ok (.putfield 85, 3) := by decide +kernel
theorem dX7_number_39 : decode cX7_number 39 = .ok (.aload_n 0, 1) := by decide +kernel
theorem dX7_number_40 : decode cX7_number 40 = .ok (.aload_n 0, 1) := by decide +kernel
theorem dX7_number_41 : decode cX7_number 41 = .ok (.getfield 85, 3) := by decide +kernel
theorem dX7_number_44 : decode cX7_number 44 = .ok (.invokevirtual 88, 3) := by decide +kernel
theorem dX7_number_47 : decode cX7_number 47 = .ok (.invokestatic 91, 3) := by decide +kernel
theorem dX7_number_50 : decode cX7_number 50 = .ok (.ifCond .eq 32, 3) := by decide +kernel
theorem dX7_number_53 : decode cX7_number 53 = .ok (.bipush 10, 2) := by decide +kernel
theorem dX7_number_55 : decode cX7_number 55 = .ok (.iload 4, 2) := by decide +kernel
theorem dX7_number_57 : decode cX7_number 57 = .ok (.imul, 1) := by decide +kernel
theorem dX7_number_58 : decode cX7_number 58 = .ok (.aload_n 0, 1) := by decide +kernel
theorem dX7_number_59 : decode cX7_number 59 = .ok (.aload_n 0, 1) := by decide +kernel
theorem dX7_number_60 : decode cX7_number 60 = .ok (.getfield 85, 3) := by decide +kernel
theorem dX7_number_63 : decode cX7_number 63 = .ok (.invokevirtual 88, 3) := by decide +kernel
theorem dX7_number_66 : decode cX7_number 66 = .ok (.iadd, 1) := by decide +kernel
theorem dX7_number_67 : decode cX7_number 67 = .ok (.bipush 48, 2) := by decide +kernel
theorem dX7_number_69 : decode cX7_number 69 = .ok (.isub, 1) := by decide +kernel
theorem dX7_number_70 : decode cX7_number 70 = .ok (.istore 4, 2) := by decide +kernel
theorem dX7_number_72 : decode cX7_number 72 = .ok (.aload_n 0, 1) := by decide +kernel
theorem dX7_number_73 : decode cX7_number 73 = .ok (.dup, 1) := by decide +kernel
theorem dX7_number_74 : decode cX7_number 74 = .ok (.getfield 85, 3) := by decide +kernel
theorem dX7_number_77 : decode cX7_number 77 = .ok (.iconst 1, 1) := by decide +kernel
theorem dX7_number_78 : decode cX7_number 78 = .ok (.iadd, 1) := by decide +kernel
theorem dX7_number_79 : decode cX7_number 79 = .ok (.putfield 85, 3) := by decide +kernel
theorem dX7_number_82 : decode cX7_number 82 = .ok (.iload 4, 2) := by decide +kernel
theorem dX7_number_84 : decode cX7_number 84 = .ok (.iload_n 1, 1) := by decide +kernel
theorem dX7_number_85 : decode cX7_number 85 = .ok (.iload_n 2, 1) := by decide +kernel
theorem dX7_number_86 : decode cX7_number 86 = .ok (.invokestatic 56, 3) := by decide +kernel
theorem dX7_number_89 : decode cX7_number 89 = .ok (.ifCond .eq 19, 3) := by decide +kernel
theorem dX7_number_92 : decode cX7_number 92 = .ok (.aload_n 0, 1) := by decide +kernel
theorem dX7_number_93 : decode cX7_number 93 = .ok (.aload_n 0, 1) := by decide +kernel
theorem dX7_number_94 : decode cX7_number 94 = .ok (.getfield 85, 3) := by decide +kernel
theorem dX7_number_97 : decode cX7_number 97 = .ok (.invokevirtual 88, 3) := by decide +kernel
theorem dX7_number_100 : decode cX7_number 100 = .ok (.iload_n 3, 1) := by decide +kernel
theorem dX7_number_101 : decode cX7_number 101 = .ok (.if_icmp .ne 7, 3) := by decide +kernel
theorem dX7_number_104 : decode cX7_number 104 = .ok (.iconst 1, 1) := by decide +kernel
theorem dX7_number_105 : decode cX7_number 105 = .ok (.goto 4, 3) := by decide +kernel
theorem dX7_number_108 : decode cX7_number 108 = .ok (.iconst 0, 1) := by decide +kernel
theorem dX7_number_109 : decode cX7_number 109 = .ok (.istore 5, 2) := by decide +kernel
theorem dX7_number_111 : decode cX7_number 111 = .ok (.aload_n 0, 1) := by decide +kernel
theorem dX7_number_112 : decode cX7_number 112 = .ok (.dup, 1) := by decide +kernel
theorem dX7_number_113 : decode cX7_number 113 = .ok (.getfield 85, 3) := by decide +kernel
theorem dX7_number_116 : decode cX7_number 116 = .ok (.iconst 1, 1) := by decide +kernel
theorem dX7_number_117 : decode cX7_number 117 = .ok (.iadd, 1) := by decide +kernel
theorem dX7_number_118 : decode cX7_number 118 = .ok (.putfield 85, 3) := by decide +kernel
theorem dX7_number_121 : decode cX7_number 121 = .ok (.iload 5, 2) := by decide +kernel
theorem dX7_number_123 : decode cX7_number 123 = .ok (.ifCond .eq 8, 3) := by decide +kernel
theorem dX7_number_126 : decode cX7_number 126 = .ok (.iload 4, 2) := by decide +kernel
theorem dX7_number_128 : decode cX7_number 128 = .ok (.goto 4, 3) := by decide +kernel
theorem dX7_number_131 : decode cX7_number 131 = .ok (.iconst (-1), 1) := by decide +kernel
theorem dX7_number_132 : decode cX7_number 132 = .ok (.ireturn, 1) := by decide +kernel
theorem dX7_holds_0 : decode cX7_holds 0 = .ok (.iconst 0, 1) := by decide +kernel
theorem dX7_holds_1 : decode cX7_holds 1 = .ok (.istore_n 1, 1) := by decide +kernel
theorem dX7_holds_2 : decode cX7_holds 2 = .ok (.iload_n 1, 1) := by decide +kernel
theorem dX7_holds_3 : decode cX7_holds 3 = .ok (.bipush 56, 2) := by decide +kernel
theorem dX7_holds_5 : decode cX7_holds 5 = .ok (.if_icmp .ge 16, 3) := by decide +kernel
theorem dX7_holds_8 : decode cX7_holds 8 = .ok (.aload_n 0, 1) := by decide +kernel
theorem dX7_holds_9 : decode cX7_holds 9 = .ok (.getfield 16, 3) := by decide +kernel
theorem dX7_holds_12 : decode cX7_holds 12 = .ok (.iload_n 1, 1) := by decide +kernel
theorem dX7_holds_13 : decode cX7_holds 13 = .ok (.iconst 0, 1) := by decide +kernel
theorem dX7_holds_14 : decode cX7_holds 14 = .ok (.iastore, 1) := by decide +kernel
theorem dX7_holds_15 : decode cX7_holds 15 = .ok (.iinc 1 1, 3) := by decide +kernel
theorem dX7_holds_18 : decode cX7_holds 18 = .ok (.goto (-16), 3) := by decide +kernel
theorem dX7_holds_21 : decode cX7_holds 21 = .ok (.iconst 0, 1) := by decide +kernel
theorem dX7_holds_22 : decode cX7_holds 22 = .ok (.istore_n 1, 1) := by decide +kernel
theorem dX7_holds_23 : decode cX7_holds 23 = .ok (.iload_n 1, 1) := by decide +kernel
theorem dX7_holds_24 : decode cX7_holds 24 = .ok (.bipush 21, 2) := by decide +kernel
theorem dX7_holds_26 : decode cX7_holds 26 = .ok (.if_icmp .ge 43, 3) := by decide +kernel
theorem dX7_holds_29 : decode cX7_holds 29 = .ok (.aload_n 0, 1) := by decide +kernel
theorem dX7_holds_30 : decode cX7_holds 30 = .ok (.getfield 31, 3) := by decide +kernel
theorem dX7_holds_33 : decode cX7_holds 33 = .ok (.iload_n 1, 1) := by decide +kernel
theorem dX7_holds_34 : decode cX7_holds 34 = .ok (.aload_n 0, 1) := by decide +kernel
theorem dX7_holds_35 : decode cX7_holds 35 = .ok (.getfield 19, 3) := by decide +kernel
theorem dX7_holds_38 : decode cX7_holds 38 = .ok (.iload_n 1, 1) := by decide +kernel
theorem dX7_holds_39 : decode cX7_holds 39 = .ok (.iaload, 1) := by decide +kernel
theorem dX7_holds_40 : decode cX7_holds 40 = .ok (.iastore, 1) := by decide +kernel
theorem dX7_holds_41 : decode cX7_holds 41 = .ok (.aload_n 0, 1) := by decide +kernel
theorem dX7_holds_42 : decode cX7_holds 42 = .ok (.getfield 19, 3) := by decide +kernel
theorem dX7_holds_45 : decode cX7_holds 45 = .ok (.iload_n 1, 1) := by decide +kernel
theorem dX7_holds_46 : decode cX7_holds 46 = .ok (.iload_n 1, 1) := by decide +kernel
theorem dX7_holds_47 : decode cX7_holds 47 = .ok (.bipush 7, 2) := by decide +kernel
theorem dX7_holds_49 : decode cX7_holds 49 = .ok (.bipush 13, 2) := by decide +kernel
theorem dX7_holds_51 : decode cX7_holds 51 = .ok (.invokestatic 56, 3) := by decide +kernel
theorem dX7_holds_54 : decode cX7_holds 54 = .ok (.ifCond .eq 7, 3) := by decide +kernel
theorem dX7_holds_57 : decode cX7_holds 57 = .ok (.iconst (-1), 1) := by decide +kernel
theorem dX7_holds_58 : decode cX7_holds 58 = .ok (.goto 4, 3) := by decide +kernel
theorem dX7_holds_61 : decode cX7_holds 61 = .ok (.iconst 0, 1) := by decide +kernel
theorem dX7_holds_62 : decode cX7_holds 62 = .ok (.iastore, 1) := by decide +kernel
theorem dX7_holds_63 : decode cX7_holds 63 = .ok (.iinc 1 1, 3) := by decide +kernel
theorem dX7_holds_66 : decode cX7_holds 66 = .ok (.goto (-43), 3) := by decide +kernel
theorem dX7_holds_69 : decode cX7_holds 69 = .ok (.return_, 1) := by decide +kernel
theorem dX7_newHour_0 : decode cX7_newHour 0 = .ok (.aload_n 0, 1) := by decide +kernel
theorem dX7_newHour_1 : decode cX7_newHour 1 = .ok (.getfield 16, 3) := by decide +kernel
theorem dX7_newHour_4 : decode cX7_newHour 4 = .ok (.iconst 1, 1) := by decide +kernel
theorem dX7_newHour_5 : decode cX7_newHour 5 = .ok (.iaload, 1) := by decide +kernel
theorem dX7_newHour_6 : decode cX7_newHour 6 = .ok (.istore 4, 2) := by decide +kernel
theorem dX7_newHour_8 : decode cX7_newHour 8 = .ok (.aload_n 0, 1) := by decide +kernel
theorem dX7_newHour_9 : decode cX7_newHour 9 = .ok (.getfield 16, 3) := by decide +kernel
theorem dX7_newHour_12 : decode cX7_newHour 12 = .ok (.iconst 2, 1) := by decide +kernel
theorem dX7_newHour_13 : decode cX7_newHour 13 = .ok (.iload 4, 2) := by decide +kernel
theorem dX7_newHour_15 : decode cX7_newHour 15 = .ok (.iadd, 1) := by decide +kernel
theorem dX7_newHour_16 : decode cX7_newHour 16 = .ok (.iload_n 1, 1) := by decide +kernel
theorem dX7_newHour_17 : decode cX7_newHour 17 = .ok (.iastore, 1) := by decide +kernel
theorem dX7_newHour_18 : decode cX7_newHour 18 = .ok (.aload_n 0, 1) := by decide +kernel
theorem dX7_newHour_19 : decode cX7_newHour 19 = .ok (.getfield 16, 3) := by decide +kernel
theorem dX7_newHour_22 : decode cX7_newHour 22 = .ok (.bipush 9, 2) := by decide +kernel
theorem dX7_newHour_24 : decode cX7_newHour 24 = .ok (.iload 4, 2) := by decide +kernel
theorem dX7_newHour_26 : decode cX7_newHour 26 = .ok (.iadd, 1) := by decide +kernel
theorem dX7_newHour_27 : decode cX7_newHour 27 = .ok (.iload_n 2, 1) := by decide +kernel
theorem dX7_newHour_28 : decode cX7_newHour 28 = .ok (.iastore, 1) := by decide +kernel
theorem dX7_newHour_29 : decode cX7_newHour 29 = .ok (.aload_n 0, 1) := by decide +kernel
theorem dX7_newHour_30 : decode cX7_newHour 30 = .ok (.getfield 16, 3) := by decide +kernel
theorem dX7_newHour_33 : decode cX7_newHour 33 = .ok (.iconst 1, 1) := by decide +kernel
theorem dX7_newHour_34 : decode cX7_newHour 34 = .ok (.dup2, 1) := by decide +kernel
theorem dX7_newHour_35 : decode cX7_newHour 35 = .ok (.iaload, 1) := by decide +kernel
theorem dX7_newHour_36 : decode cX7_newHour 36 = .ok (.iconst 1, 1) := by decide +kernel
theorem dX7_newHour_37 : decode cX7_newHour 37 = .ok (.iadd, 1) := by decide +kernel
theorem dX7_newHour_38 : decode cX7_newHour 38 = .ok (.iastore, 1) := by decide +kernel
theorem dX7_newHour_39 : decode cX7_newHour 39 = .ok (.aload_n 0, 1) := by decide +kernel
theorem dX7_newHour_40 : decode cX7_newHour 40 = .ok (.iload 4, 2) := by decide +kernel
theorem dX7_newHour_42 : decode cX7_newHour 42 = .ok (.iload_n 3, 1) := by decide +kernel
theorem dX7_newHour_43 : decode cX7_newHour 43 = .ok (.invokevirtual 95, 3) := by decide +kernel
theorem dX7_newHour_46 : decode cX7_newHour 46 = .ok (.return_, 1) := by decide +kernel
theorem dX7_readsHour_0 : decode cX7_readsHour 0 = .ok (.aload_n 0, 1) := by decide +kernel
theorem dX7_readsHour_1 : decode cX7_readsHour 1 = .ok (.iconst 0, 1) := by decide +kernel
theorem dX7_readsHour_2 : decode cX7_readsHour 2 = .ok (.iconst 3, 1) := by decide +kernel
theorem dX7_readsHour_3 : decode cX7_readsHour 3 = .ok (.bipush 44, 2) := by decide +kernel
theorem dX7_readsHour_5 : decode cX7_readsHour 5 = .ok (.invokevirtual 99, 3) := by decide +kernel
theorem dX7_readsHour_8 : decode cX7_readsHour 8 = .ok (.istore_n 2, 1) := by decide +kernel
theorem dX7_readsHour_9 : decode cX7_readsHour 9 = .ok (.iload_n 2, 1) := by decide +kernel
theorem dX7_readsHour_10 : decode cX7_readsHour 10 = .ok (.ifCond .ge 7, 3) := by decide +kernel
theorem dX7_readsHour_13 : decode cX7_readsHour 13 = .ok (.iconst (-1), 1) := by decide +kernel
theorem dX7_readsHour_14 : decode cX7_readsHour 14 = .ok (.goto 21, 3) := by decide +kernel
theorem dX7_readsHour_17 : decode cX7_readsHour 17 = .ok (.aload_n 0, 1) := by decide +kernel
theorem dX7_readsHour_18 : decode cX7_readsHour 18 = .ok (.iconst 1, 1) := by decide +kernel
theorem dX7_readsHour_19 : decode cX7_readsHour 19 = .ok (.bipush 20, 2) := by decide +kernel
theorem dX7_readsHour_21 : decode cX7_readsHour 21 = .ok (.iload_n 1, 1) := by decide +kernel
theorem dX7_readsHour_22 : decode cX7_readsHour 22 = .ok (.ifCond .eq 8, 3) := by decide +kernel
theorem dX7_readsHour_25 : decode cX7_readsHour 25 = .ok (.bipush 44, 2) := by decide +kernel
theorem dX7_readsHour_27 : decode cX7_readsHour 27 = .ok (.goto 5, 3) := by decide +kernel
theorem dX7_readsHour_30 : decode cX7_readsHour 30 = .ok (.bipush 59, 2) := by decide +kernel
theorem dX7_readsHour_32 : decode cX7_readsHour 32 = .ok (.invokevirtual 99, 3) := by decide +kernel
theorem dX7_readsHour_35 : decode cX7_readsHour 35 = .ok (.istore_n 3, 1) := by decide +kernel
theorem dX7_readsHour_36 : decode cX7_readsHour 36 = .ok (.iload_n 3, 1) := by decide +kernel
theorem dX7_readsHour_37 : decode cX7_readsHour 37 = .ok (.ifCond .lt 7, 3) := by decide +kernel
theorem dX7_readsHour_40 : decode cX7_readsHour 40 = .ok (.iload_n 1, 1) := by decide +kernel
theorem dX7_readsHour_41 : decode cX7_readsHour 41 = .ok (.ifCond .ne 7, 3) := by decide +kernel
theorem dX7_readsHour_44 : decode cX7_readsHour 44 = .ok (.iconst (-1), 1) := by decide +kernel
theorem dX7_readsHour_45 : decode cX7_readsHour 45 = .ok (.goto 18, 3) := by decide +kernel
theorem dX7_readsHour_48 : decode cX7_readsHour 48 = .ok (.aload_n 0, 1) := by decide +kernel
theorem dX7_readsHour_49 : decode cX7_readsHour 49 = .ok (.iconst 0, 1) := by decide +kernel
theorem dX7_readsHour_50 : decode cX7_readsHour 50 = .ok (.aload_n 0, 1) := by decide +kernel
theorem dX7_readsHour_51 : decode cX7_readsHour 51 = .ok (.getfield 16, 3) := by decide +kernel
theorem dX7_readsHour_54 : decode cX7_readsHour 54 = .ok (.iconst 0, 1) := by decide +kernel
theorem dX7_readsHour_55 : decode cX7_readsHour 55 = .ok (.iaload, 1) := by decide +kernel
theorem dX7_readsHour_56 : decode cX7_readsHour 56 = .ok (.iconst 1, 1) := by decide +kernel
theorem dX7_readsHour_57 : decode cX7_readsHour 57 = .ok (.isub, 1) := by decide +kernel
theorem dX7_readsHour_58 : decode cX7_readsHour 58 = .ok (.bipush 59, 2) := by decide +kernel
theorem dX7_readsHour_60 : decode cX7_readsHour 60 = .ok (.invokevirtual 99, 3) := by decide +kernel
theorem dX7_readsHour_63 : decode cX7_readsHour 63 = .ok (.istore 4, 2) := by decide +kernel
theorem dX7_readsHour_65 : decode cX7_readsHour 65 = .ok (.iload_n 3, 1) := by decide +kernel
theorem dX7_readsHour_66 : decode cX7_readsHour 66 = .ok (.ifCond .lt 38, 3) := by decide +kernel
theorem dX7_readsHour_69 : decode cX7_readsHour 69 = .ok (.iload_n 1, 1) := by decide +kernel
theorem dX7_readsHour_70 : decode cX7_readsHour 70 = .ok (.ifCond .eq 8, 3) := by decide +kernel
theorem dX7_readsHour_73 : decode cX7_readsHour 73 = .ok (.iload 4, 2) := by decide +kernel
theorem dX7_readsHour_75 : decode cX7_readsHour 75 = .ok (.ifCond .lt 29, 3) := by decide +kernel
theorem dX7_readsHour_78 : decode cX7_readsHour 78 = .ok (.aload_n 0, 1) := by decide +kernel
theorem dX7_readsHour_79 : decode cX7_readsHour 79 = .ok (.getfield 16, 3) := by decide +kernel
theorem dX7_readsHour_82 : decode cX7_readsHour 82 = .ok (.iconst 1, 1) := by decide +kernel
theorem dX7_readsHour_83 : decode cX7_readsHour 83 = .ok (.iaload, 1) := by decide +kernel
theorem dX7_readsHour_84 : decode cX7_readsHour 84 = .ok (.bipush 7, 2) := by decide +kernel
theorem dX7_readsHour_86 : decode cX7_readsHour 86 = .ok (.if_icmp .eq 18, 3) := by decide +kernel
theorem dX7_readsHour_89 : decode cX7_readsHour 89 = .ok (.iload_n 1, 1) := by decide +kernel
theorem dX7_readsHour_90 : decode cX7_readsHour 90 = .ok (.ifCond .eq 16, 3) := by decide +kernel
theorem dX7_readsHour_93 : decode cX7_readsHour 93 = .ok (.aload_n 0, 1) := by decide +kernel
theorem dX7_readsHour_94 : decode cX7_readsHour 94 = .ok (.iload_n 2, 1) := by decide +kernel
theorem dX7_readsHour_95 : decode cX7_readsHour 95 = .ok (.iload 4, 2) := by decide +kernel
theorem dX7_readsHour_97 : decode cX7_readsHour 97 = .ok (.iconst 1, 1) := by decide +kernel
theorem dX7_readsHour_98 : decode cX7_readsHour 98 = .ok (.invokevirtual 103, 3) := by decide +kernel
theorem dX7_readsHour_101 : decode cX7_readsHour 101 = .ok (.ifCond .ne 5, 3) := by decide +kernel
theorem dX7_readsHour_104 : decode cX7_readsHour 104 = .ok (.iconst 0, 1) := by decide +kernel
theorem dX7_readsHour_105 : decode cX7_readsHour 105 = .ok (.ireturn, 1) := by decide +kernel
theorem dX7_readsHour_106 : decode cX7_readsHour 106 = .ok (.aload_n 0, 1) := by decide +kernel
theorem dX7_readsHour_107 : decode cX7_readsHour 107 = .ok (.iload_n 2, 1) := by decide +kernel
theorem dX7_readsHour_108 : decode cX7_readsHour 108 = .ok (.iload_n 3, 1) := by decide +kernel
theorem dX7_readsHour_109 : decode cX7_readsHour 109 = .ok (.iload_n 1, 1) := by decide +kernel
theorem dX7_readsHour_110 : decode cX7_readsHour 110 = .ok (.ifCond .eq 8, 3) := by decide +kernel
theorem dX7_readsHour_113 : decode cX7_readsHour 113 = .ok (.iload 4, 2) := by decide +kernel
theorem dX7_readsHour_115 : decode cX7_readsHour 115 = .ok (.goto 4, 3) := by decide +kernel
theorem dX7_readsHour_118 : decode cX7_readsHour 118 = .ok (.iconst (-1), 1) := by decide +kernel
theorem dX7_readsHour_119 : decode cX7_readsHour 119 = .ok (.invokevirtual 52, 3) := by decide +kernel
theorem dX7_readsHour_122 : decode cX7_readsHour 122 = .ok (.iconst 1, 1) := by decide +kernel
theorem dX7_readsHour_123 : decode cX7_readsHour 123 = .ok (.ireturn, 1) := by decide +kernel
theorem dX7_readsItem_0 : decode cX7_readsItem 0 = .ok (.iload_n 1, 1) := by decide +kernel
theorem dX7_readsItem_1 : decode cX7_readsItem 1 = .ok (.lookupswitch 141 #[(102, 107), (103, 43), (104, 95), (119, 101)], 43) := by decide +kernel
theorem dX7_readsItem_44 : decode cX7_readsItem 44 = .ok (.aload_n 0, 1) := by decide +kernel
theorem dX7_readsItem_45 : decode cX7_readsItem 45 = .ok (.iconst 1, 1) := by decide +kernel
theorem dX7_readsItem_46 : decode cX7_readsItem 46 = .ok (.bipush 9, 2) := by decide +kernel
theorem dX7_readsItem_48 : decode cX7_readsItem 48 = .ok (.bipush 59, 2) := by decide +kernel
theorem dX7_readsItem_50 : decode cX7_readsItem 50 = .ok (.invokevirtual 99, 3) := by decide +kernel
theorem dX7_readsItem_53 : decode cX7_readsItem 53 = .ok (.istore_n 2, 1) := by decide +kernel
theorem dX7_readsItem_54 : decode cX7_readsItem 54 = .ok (.iload_n 2, 1) := by decide +kernel
theorem dX7_readsItem_55 : decode cX7_readsItem 55 = .ok (.ifCond .lt 13, 3) := by decide +kernel
theorem dX7_readsItem_58 : decode cX7_readsItem 58 = .ok (.aload_n 0, 1) := by decide +kernel
theorem dX7_readsItem_59 : decode cX7_readsItem 59 = .ok (.getfield 16, 3) := by decide +kernel
theorem dX7_readsItem_62 : decode cX7_readsItem 62 = .ok (.iconst 0, 1) := by decide +kernel
theorem dX7_readsItem_63 : decode cX7_readsItem 63 = .ok (.iaload, 1) := by decide +kernel
theorem dX7_readsItem_64 : decode cX7_readsItem 64 = .ok (.iconst 5, 1) := by decide +kernel
theorem dX7_readsItem_65 : decode cX7_readsItem 65 = .ok (.if_icmp .ne 5, 3) := by decide +kernel
theorem dX7_readsItem_68 : decode cX7_readsItem 68 = .ok (.iconst 0, 1) := by decide +kernel
theorem dX7_readsItem_69 : decode cX7_readsItem 69 = .ok (.ireturn, 1) := by decide +kernel
theorem dX7_readsItem_70 : decode cX7_readsItem 70 = .ok (.aload_n 0, 1) := by decide +kernel
theorem dX7_readsItem_71 : decode cX7_readsItem 71 = .ok (.getfield 19, 3) := by decide +kernel
theorem dX7_readsItem_74 : decode cX7_readsItem 74 = .ok (.iconst 2, 1) := by decide +kernel
theorem dX7_readsItem_75 : decode cX7_readsItem 75 = .ok (.aload_n 0, 1) := by decide +kernel
theorem dX7_readsItem_76 : decode cX7_readsItem 76 = .ok (.getfield 16, 3) := by decide +kernel
theorem dX7_readsItem_79 : decode cX7_readsItem 79 = .ok (.iconst 0, 1) := by decide +kernel
theorem dX7_readsItem_80 : decode cX7_readsItem 80 = .ok (.iaload, 1) := by decide +kernel
theorem dX7_readsItem_81 : decode cX7_readsItem 81 = .ok (.iadd, 1) := by decide +kernel
theorem dX7_readsItem_82 : decode cX7_readsItem 82 = .ok (.iload_n 2, 1) := by decide +kernel
theorem dX7_readsItem_83 : decode cX7_readsItem 83 = .ok (.iastore, 1) := by decide +kernel
theorem dX7_readsItem_84 : decode cX7_readsItem 84 = .ok (.aload_n 0, 1) := by decide +kernel
theorem dX7_readsItem_85 : decode cX7_readsItem 85 = .ok (.getfield 16, 3) := by decide +kernel
theorem dX7_readsItem_88 : decode cX7_readsItem 88 = .ok (.iconst 0, 1) := by decide +kernel
theorem dX7_readsItem_89 : decode cX7_readsItem 89 = .ok (.dup2, 1) := by decide +kernel
theorem dX7_readsItem_90 : decode cX7_readsItem 90 = .ok (.iaload, 1) := by decide +kernel
theorem dX7_readsItem_91 : decode cX7_readsItem 91 = .ok (.iconst 1, 1) := by decide +kernel
theorem dX7_readsItem_92 : decode cX7_readsItem 92 = .ok (.iadd, 1) := by decide +kernel
theorem dX7_readsItem_93 : decode cX7_readsItem 93 = .ok (.iastore, 1) := by decide +kernel
theorem dX7_readsItem_94 : decode cX7_readsItem 94 = .ok (.iconst 1, 1) := by decide +kernel
theorem dX7_readsItem_95 : decode cX7_readsItem 95 = .ok (.ireturn, 1) := by decide +kernel
theorem dX7_readsItem_96 : decode cX7_readsItem 96 = .ok (.aload_n 0, 1) := by decide +kernel
theorem dX7_readsItem_97 : decode cX7_readsItem 97 = .ok (.iconst 1, 1) := by decide +kernel
theorem dX7_readsItem_98 : decode cX7_readsItem 98 = .ok (.invokevirtual 107, 3) := by decide +kernel
theorem dX7_readsItem_101 : decode cX7_readsItem 101 = .ok (.ireturn, 1) := by decide +kernel
theorem dX7_readsItem_102 : decode cX7_readsItem 102 = .ok (.aload_n 0, 1) := by decide +kernel
theorem dX7_readsItem_103 : decode cX7_readsItem 103 = .ok (.iconst 0, 1) := by decide +kernel
theorem dX7_readsItem_104 : decode cX7_readsItem 104 = .ok (.invokevirtual 107, 3) := by decide +kernel
theorem dX7_readsItem_107 : decode cX7_readsItem 107 = .ok (.ireturn, 1) := by decide +kernel
theorem dX7_readsItem_108 : decode cX7_readsItem 108 = .ok (.aload_n 0, 1) := by decide +kernel
theorem dX7_readsItem_109 : decode cX7_readsItem 109 = .ok (.iconst 0, 1) := by decide +kernel
theorem dX7_readsItem_110 : decode cX7_readsItem 110 = .ok (.bipush 39, 2) := by decide +kernel
theorem dX7_readsItem_112 : decode cX7_readsItem 112 = .ok (.bipush 59, 2) := by decide +kernel
theorem dX7_readsItem_114 : decode cX7_readsItem 114 = .ok (.invokevirtual 99, 3) := by decide +kernel
theorem dX7_readsItem_117 : decode cX7_readsItem 117 = .ok (.istore_n 2, 1) := by decide +kernel
theorem dX7_readsItem_118 : decode cX7_readsItem 118 = .ok (.iload_n 2, 1) := by decide +kernel
theorem dX7_readsItem_119 : decode cX7_readsItem 119 = .ok (.ifCond .lt 13, 3) := by decide +kernel
theorem dX7_readsItem_122 : decode cX7_readsItem 122 = .ok (.aload_n 0, 1) := by decide +kernel
theorem dX7_readsItem_123 : decode cX7_readsItem 123 = .ok (.getfield 16, 3) := by decide +kernel
theorem dX7_readsItem_126 : decode cX7_readsItem 126 = .ok (.bipush 16, 2) := by decide +kernel
theorem dX7_readsItem_128 : decode cX7_readsItem 128 = .ok (.iload_n 2, 1) := by decide +kernel
theorem dX7_readsItem_129 : decode cX7_readsItem 129 = .ok (.iadd, 1) := by decide +kernel
theorem dX7_readsItem_130 : decode cX7_readsItem 130 = .ok (.iconst 1, 1) := by decide +kernel
theorem dX7_readsItem_131 : decode cX7_readsItem 131 = .ok (.iastore, 1) := by decide +kernel
theorem dX7_readsItem_132 : decode cX7_readsItem 132 = .ok (.iload_n 2, 1) := by decide +kernel
theorem dX7_readsItem_133 : decode cX7_readsItem 133 = .ok (.ifCond .lt 7, 3) := by decide +kernel
theorem dX7_readsItem_136 : decode cX7_readsItem 136 = .ok (.iconst 1, 1) := by decide +kernel
theorem dX7_readsItem_137 : decode cX7_readsItem 137 = .ok (.goto 4, 3) := by decide +kernel
theorem dX7_readsItem_140 : decode cX7_readsItem 140 = .ok (.iconst 0, 1) := by decide +kernel
theorem dX7_readsItem_141 : decode cX7_readsItem 141 = .ok (.ireturn, 1) := by decide +kernel
theorem dX7_readsItem_142 : decode cX7_readsItem 142 = .ok (.iconst 0, 1) := by decide +kernel
theorem dX7_readsItem_143 : decode cX7_readsItem 143 = .ok (.ireturn, 1) := by decide +kernel
theorem dX7_readsAll_0 : decode cX7_readsAll 0 = .ok (.aload_n 0, 1) := by decide +kernel
theorem dX7_readsAll_1 : decode cX7_readsAll 1 = .ok (.invokevirtual 49, 3) := by decide +kernel
theorem dX7_readsAll_4 : decode cX7_readsAll 4 = .ok (.aload_n 0, 1) := by decide +kernel
theorem dX7_readsAll_5 : decode cX7_readsAll 5 = .ok (.iconst 0, 1) := by decide +kernel
theorem dX7_readsAll_6 : decode cX7_readsAll 6 = .ok (.putfield 85, 3) := by decide +kernel
theorem dX7_readsAll_9 : decode cX7_readsAll 9 = .ok (.aload_n 0, 1) := by decide +kernel
theorem dX7_readsAll_10 : decode cX7_readsAll 10 = .ok (.getfield 85, 3) := by decide +kernel
theorem dX7_readsAll_13 : decode cX7_readsAll 13 = .ok (.aload_n 0, 1) := by decide +kernel
theorem dX7_readsAll_14 : decode cX7_readsAll 14 = .ok (.getfield 81, 3) := by decide +kernel
theorem dX7_readsAll_17 : decode cX7_readsAll 17 = .ok (.if_icmp .ge 36, 3) := by decide +kernel
theorem dX7_readsAll_20 : decode cX7_readsAll 20 = .ok (.aload_n 0, 1) := by decide +kernel
theorem dX7_readsAll_21 : decode cX7_readsAll 21 = .ok (.getfield 85, 3) := by decide +kernel
theorem dX7_readsAll_24 : decode cX7_readsAll 24 = .ok (.istore_n 1, 1) := by decide +kernel
theorem dX7_readsAll_25 : decode cX7_readsAll 25 = .ok (.aload_n 0, 1) := by decide +kernel
theorem dX7_readsAll_26 : decode cX7_readsAll 26 = .ok (.dup, 1) := by decide +kernel
theorem dX7_readsAll_27 : decode cX7_readsAll 27 = .ok (.getfield 85, 3) := by decide +kernel
theorem dX7_readsAll_30 : decode cX7_readsAll 30 = .ok (.iconst 1, 1) := by decide +kernel
theorem dX7_readsAll_31 : decode cX7_readsAll 31 = .ok (.iadd, 1) := by decide +kernel
theorem dX7_readsAll_32 : decode cX7_readsAll 32 = .ok (.putfield 85, 3) := by decide +kernel
theorem dX7_readsAll_35 : decode cX7_readsAll 35 = .ok (.aload_n 0, 1) := by decide +kernel
theorem dX7_readsAll_36 : decode cX7_readsAll 36 = .ok (.aload_n 0, 1) := by decide +kernel
theorem dX7_readsAll_37 : decode cX7_readsAll 37 = .ok (.getfield 7, 3) := by decide +kernel
theorem dX7_readsAll_40 : decode cX7_readsAll 40 = .ok (.iload_n 1, 1) := by decide +kernel
theorem dX7_readsAll_41 : decode cX7_readsAll 41 = .ok (.iaload, 1) := by decide +kernel
theorem dX7_readsAll_42 : decode cX7_readsAll 42 = .ok (.invokevirtual 111, 3) := by decide +kernel
theorem dX7_readsAll_45 : decode cX7_readsAll 45 = .ok (.ifCond .ne 5, 3) := by decide +kernel
theorem dX7_readsAll_48 : decode cX7_readsAll 48 = .ok (.iload_n 1, 1) := by decide +kernel
theorem dX7_readsAll_49 : decode cX7_readsAll 49 = .ok (.ireturn, 1) := by decide +kernel
theorem dX7_readsAll_50 : decode cX7_readsAll 50 = .ok (.goto (-41), 3) := by decide +kernel
theorem dX7_readsAll_53 : decode cX7_readsAll 53 = .ok (.bipush (-4), 2) := by decide +kernel
theorem dX7_readsAll_55 : decode cX7_readsAll 55 = .ok (.ireturn, 1) := by decide +kernel
theorem dX7_fault_0 : decode cX7_fault 0 = .ok (.aload_n 0, 1) := by decide +kernel
theorem dX7_fault_1 : decode cX7_fault 1 = .ok (.invokevirtual 114, 3) := by decide +kernel
theorem dX7_fault_4 : decode cX7_fault 4 = .ok (.istore_n 1, 1) := by decide +kernel
theorem dX7_fault_5 : decode cX7_fault 5 = .ok (.aload_n 0, 1) := by decide +kernel
theorem dX7_fault_6 : decode cX7_fault 6 = .ok (.invokevirtual 118, 3) := by decide +kernel
theorem dX7_fault_9 : decode cX7_fault 9 = .ok (.iload_n 1, 1) := by decide +kernel
theorem dX7_fault_10 : decode cX7_fault 10 = .ok (.ireturn, 1) := by decide +kernel
theorem dX7_lay_0 : decode cX7_lay 0 = .ok (.aload_n 0, 1) := by decide +kernel
theorem dX7_lay_1 : decode cX7_lay 1 = .ok (.invokevirtual 114, 3) := by decide +kernel
theorem dX7_lay_4 : decode cX7_lay 4 = .ok (.bipush (-4), 2) := by decide +kernel
theorem dX7_lay_6 : decode cX7_lay 6 = .ok (.if_icmp .ne 21, 3) := by decide +kernel
theorem dX7_lay_9 : decode cX7_lay 9 = .ok (.aload_n 0, 1) := by decide +kernel
theorem dX7_lay_10 : decode cX7_lay 10 = .ok (.getfield 16, 3) := by decide +kernel
theorem dX7_lay_13 : decode cX7_lay 13 = .ok (.iconst 0, 1) := by decide +kernel
theorem dX7_lay_14 : decode cX7_lay 14 = .ok (.iaload, 1) := by decide +kernel
theorem dX7_lay_15 : decode cX7_lay 15 = .ok (.ifCond .eq 12, 3) := by decide +kernel
theorem dX7_lay_18 : decode cX7_lay 18 = .ok (.aload_n 0, 1) := by decide +kernel
theorem dX7_lay_19 : decode cX7_lay 19 = .ok (.getfield 16, 3) := by decide +kernel
theorem dX7_lay_22 : decode cX7_lay 22 = .ok (.iconst 1, 1) := by decide +kernel
theorem dX7_lay_23 : decode cX7_lay 23 = .ok (.iaload, 1) := by decide +kernel
theorem dX7_lay_24 : decode cX7_lay 24 = .ok (.ifCond .ne 10, 3) := by decide +kernel
theorem dX7_lay_27 : decode cX7_lay 27 = .ok (.aload_n 0, 1) := by decide +kernel
theorem dX7_lay_28 : decode cX7_lay 28 = .ok (.invokevirtual 118, 3) := by decide +kernel
theorem dX7_lay_31 : decode cX7_lay 31 = .ok (.bipush (-2), 2) := by decide +kernel
theorem dX7_lay_33 : decode cX7_lay 33 = .ok (.ireturn, 1) := by decide +kernel
theorem dX7_lay_34 : decode cX7_lay 34 = .ok (.iconst 0, 1) := by decide +kernel
theorem dX7_lay_35 : decode cX7_lay 35 = .ok (.istore_n 1, 1) := by decide +kernel
theorem dX7_lay_36 : decode cX7_lay 36 = .ok (.iload_n 1, 1) := by decide +kernel
theorem dX7_lay_37 : decode cX7_lay 37 = .ok (.bipush 56, 2) := by decide +kernel
theorem dX7_lay_39 : decode cX7_lay 39 = .ok (.if_icmp .ge 21, 3) := by decide +kernel
theorem dX7_lay_42 : decode cX7_lay 42 = .ok (.aload_n 0, 1) := by decide +kernel
theorem dX7_lay_43 : decode cX7_lay 43 = .ok (.getfield 13, 3) := by decide +kernel
theorem dX7_lay_46 : decode cX7_lay 46 = .ok (.iload_n 1, 1) := by decide +kernel
theorem dX7_lay_47 : decode cX7_lay 47 = .ok (.aload_n 0, 1) := by decide +kernel
theorem dX7_lay_48 : decode cX7_lay 48 = .ok (.getfield 16, 3) := by decide +kernel
theorem dX7_lay_51 : decode cX7_lay 51 = .ok (.iload_n 1, 1) := by decide +kernel
theorem dX7_lay_52 : decode cX7_lay 52 = .ok (.iaload, 1) := by decide +kernel
theorem dX7_lay_53 : decode cX7_lay 53 = .ok (.iastore, 1) := by decide +kernel
theorem dX7_lay_54 : decode cX7_lay 54 = .ok (.iinc 1 1, 3) := by decide +kernel
theorem dX7_lay_57 : decode cX7_lay 57 = .ok (.goto (-21), 3) := by decide +kernel
theorem dX7_lay_60 : decode cX7_lay 60 = .ok (.aload_n 0, 1) := by decide +kernel
theorem dX7_lay_61 : decode cX7_lay 61 = .ok (.iconst 0, 1) := by decide +kernel
theorem dX7_lay_62 : decode cX7_lay 62 = .ok (.putfield 121, 3) := by decide +kernel
theorem dX7_lay_65 : decode cX7_lay 65 = .ok (.aload_n 0, 1) := by decide +kernel
theorem dX7_lay_66 : decode cX7_lay 66 = .ok (.iconst 0, 1) := by decide +kernel
theorem dX7_lay_67 : decode cX7_lay 67 = .ok (.putfield 124, 3) := by decide +kernel
theorem dX7_lay_70 : decode cX7_lay 70 = .ok (.aload_n 0, 1) := by decide +kernel
theorem dX7_lay_71 : decode cX7_lay 71 = .ok (.iconst 0, 1) := by decide +kernel
theorem dX7_lay_72 : decode cX7_lay 72 = .ok (.putfield 127, 3) := by decide +kernel
theorem dX7_lay_75 : decode cX7_lay 75 = .ok (.aload_n 0, 1) := by decide +kernel
theorem dX7_lay_76 : decode cX7_lay 76 = .ok (.getfield 13, 3) := by decide +kernel
theorem dX7_lay_79 : decode cX7_lay 79 = .ok (.iconst 1, 1) := by decide +kernel
theorem dX7_lay_80 : decode cX7_lay 80 = .ok (.iaload, 1) := by decide +kernel
theorem dX7_lay_81 : decode cX7_lay 81 = .ok (.ireturn, 1) := by decide +kernel
theorem dX7_plot_0 : decode cX7_plot 0 = .ok (.aload_n 0, 1) := by decide +kernel
theorem dX7_plot_1 : decode cX7_plot 1 = .ok (.iload_n 1, 1) := by decide +kernel
theorem dX7_plot_2 : decode cX7_plot 2 = .ok (.invokevirtual 130, 3) := by decide +kernel
theorem dX7_plot_5 : decode cX7_plot 5 = .ok (.ifCond .ne 5, 3) := by decide +kernel
theorem dX7_plot_8 : decode cX7_plot 8 = .ok (.iconst (-1), 1) := by decide +kernel
theorem dX7_plot_9 : decode cX7_plot 9 = .ok (.ireturn, 1) := by decide +kernel
theorem dX7_plot_10 : decode cX7_plot 10 = .ok (.iload_n 2, 1) := by decide +kernel
theorem dX7_plot_11 : decode cX7_plot 11 = .ok (.tableswitch 66 0 3 #[29, 38, 54, 60], 29) := by decide +kernel
theorem dX7_plot_40 : decode cX7_plot 40 = .ok (.aload_n 0, 1) := by decide +kernel
theorem dX7_plot_41 : decode cX7_plot 41 = .ok (.getfield 19, 3) := by decide +kernel
theorem dX7_plot_44 : decode cX7_plot 44 = .ok (.iconst 2, 1) := by decide +kernel
theorem dX7_plot_45 : decode cX7_plot 45 = .ok (.iload_n 1, 1) := by decide +kernel
theorem dX7_plot_46 : decode cX7_plot 46 = .ok (.iadd, 1) := by decide +kernel
theorem dX7_plot_47 : decode cX7_plot 47 = .ok (.iaload, 1) := by decide +kernel
theorem dX7_plot_48 : decode cX7_plot 48 = .ok (.ireturn, 1) := by decide +kernel
theorem dX7_plot_49 : decode cX7_plot 49 = .ok (.aload_n 0, 1) := by decide +kernel
theorem dX7_plot_50 : decode cX7_plot 50 = .ok (.getfield 19, 3) := by decide +kernel
theorem dX7_plot_53 : decode cX7_plot 53 = .ok (.iconst 2, 1) := by decide +kernel
theorem dX7_plot_54 : decode cX7_plot 54 = .ok (.iload_n 1, 1) := by decide +kernel
theorem dX7_plot_55 : decode cX7_plot 55 = .ok (.iadd, 1) := by decide +kernel
theorem dX7_plot_56 : decode cX7_plot 56 = .ok (.iaload, 1) := by decide +kernel
theorem dX7_plot_57 : decode cX7_plot 57 = .ok (.aload_n 0, 1) := by decide +kernel
theorem dX7_plot_58 : decode cX7_plot 58 = .ok (.iload_n 1, 1) := by decide +kernel
theorem dX7_plot_59 : decode cX7_plot 59 = .ok (.iconst 0, 1) := by decide +kernel
theorem dX7_plot_60 : decode cX7_plot 60 = .ok (.invokevirtual 78, 3) := by decide +kernel
theorem dX7_plot_63 : decode cX7_plot 63 = .ok (.isub, 1) := by decide +kernel
theorem dX7_plot_64 : decode cX7_plot 64 = .ok (.ireturn, 1) := by decide +kernel
theorem dX7_plot_65 : decode cX7_plot 65 = .ok (.aload_n 0, 1) := by decide +kernel
theorem dX7_plot_66 : decode cX7_plot 66 = .ok (.iload_n 1, 1) := by decide +kernel
theorem dX7_plot_67 : decode cX7_plot 67 = .ok (.invokevirtual 60, 3) := by decide +kernel
theorem dX7_plot_70 : decode cX7_plot 70 = .ok (.ireturn, 1) := by decide +kernel
theorem dX7_plot_71 : decode cX7_plot 71 = .ok (.aload_n 0, 1) := by decide +kernel
theorem dX7_plot_72 : decode cX7_plot 72 = .ok (.iload_n 1, 1) := by decide +kernel
theorem dX7_plot_73 : decode cX7_plot 73 = .ok (.invokevirtual 75, 3) := by decide +kernel
theorem dX7_plot_76 : decode cX7_plot 76 = .ok (.ireturn, 1) := by decide +kernel
theorem dX7_plot_77 : decode cX7_plot 77 = .ok (.iconst (-1), 1) := by decide +kernel
theorem dX7_plot_78 : decode cX7_plot 78 = .ok (.ireturn, 1) := by decide +kernel
theorem dX7_hour_0 : decode cX7_hour 0 = .ok (.aload_n 0, 1) := by decide +kernel
theorem dX7_hour_1 : decode cX7_hour 1 = .ok (.iload_n 1, 1) := by decide +kernel
theorem dX7_hour_2 : decode cX7_hour 2 = .ok (.invokevirtual 133, 3) := by decide +kernel
theorem dX7_hour_5 : decode cX7_hour 5 = .ok (.ifCond .eq 12, 3) := by decide +kernel
theorem dX7_hour_8 : decode cX7_hour 8 = .ok (.iload_n 2, 1) := by decide +kernel
theorem dX7_hour_9 : decode cX7_hour 9 = .ok (.iconst 0, 1) := by decide +kernel
theorem dX7_hour_10 : decode cX7_hour 10 = .ok (.iconst 4, 1) := by decide +kernel
theorem dX7_hour_11 : decode cX7_hour 11 = .ok (.invokestatic 56, 3) := by decide +kernel
theorem dX7_hour_14 : decode cX7_hour 14 = .ok (.ifCond .ne 5, 3) := by decide +kernel
theorem dX7_hour_17 : decode cX7_hour 17 = .ok (.iconst (-1), 1) := by decide +kernel
theorem dX7_hour_18 : decode cX7_hour 18 = .ok (.ireturn, 1) := by decide +kernel
theorem dX7_hour_19 : decode cX7_hour 19 = .ok (.aload_n 0, 1) := by decide +kernel
theorem dX7_hour_20 : decode cX7_hour 20 = .ok (.getfield 19, 3) := by decide +kernel
theorem dX7_hour_23 : decode cX7_hour 23 = .ok (.bipush 7, 2) := by decide +kernel
theorem dX7_hour_25 : decode cX7_hour 25 = .ok (.iload_n 1, 1) := by decide +kernel
theorem dX7_hour_26 : decode cX7_hour 26 = .ok (.iadd, 1) := by decide +kernel
theorem dX7_hour_27 : decode cX7_hour 27 = .ok (.iaload, 1) := by decide +kernel
theorem dX7_hour_28 : decode cX7_hour 28 = .ok (.istore_n 3, 1) := by decide +kernel
theorem dX7_hour_29 : decode cX7_hour 29 = .ok (.iload_n 2, 1) := by decide +kernel
theorem dX7_hour_30 : decode cX7_hour 30 = .ok (.tableswitch 81 0 3 #[30, 39, 49, 61], 30) := by decide +kernel
theorem dX7_hour_60 : decode cX7_hour 60 = .ok (.aload_n 0, 1) := by decide +kernel
theorem dX7_hour_61 : decode cX7_hour 61 = .ok (.getfield 13, 3) := by decide +kernel
theorem dX7_hour_64 : decode cX7_hour 64 = .ok (.iconst 2, 1) := by decide +kernel
theorem dX7_hour_65 : decode cX7_hour 65 = .ok (.iload_n 1, 1) := by decide +kernel
theorem dX7_hour_66 : decode cX7_hour 66 = .ok (.iadd, 1) := by decide +kernel
theorem dX7_hour_67 : decode cX7_hour 67 = .ok (.iaload, 1) := by decide +kernel
theorem dX7_hour_68 : decode cX7_hour 68 = .ok (.ireturn, 1) := by decide +kernel
end
section
theorem dX7_hour_69 : decode cX7_hour 69 = .ok (.aload_n 0, 1) := by decide +kernel
theorem dX7_hour_70 : decode cX7_hour 70 = .ok (.getfield 13, 3) := by decide +kernel
theorem dX7_hour_73 : decode cX7_hour 73 = .ok (.bipush 9, 2) := by decide +kernel
theorem dX7_hour_75 : decode cX7_hour 75 = .ok (.iload_n 1, 1) := by decide +kernel
theorem dX7_hour_76 : decode cX7_hour 76 = .ok (.iadd, 1) := by decide +kernel
theorem dX7_hour_77 : decode cX7_hour 77 = .ok (.iaload, 1) := by decide +kernel
theorem dX7_hour_78 : decode cX7_hour 78 = .ok (.ireturn, 1) := by decide +kernel
theorem dX7_hour_79 : decode cX7_hour 79 = .ok (.iload_n 3, 1) := by decide +kernel
theorem dX7_hour_80 : decode cX7_hour 80 = .ok (.iconst (-1), 1) := by decide +kernel
theorem dX7_hour_81 : decode cX7_hour 81 = .ok (.if_icmp .ne 8, 3) := by decide +kernel
theorem dX7_hour_84 : decode cX7_hour 84 = .ok (.bipush (-4), 2) := by decide +kernel
theorem dX7_hour_86 : decode cX7_hour 86 = .ok (.goto 4, 3) := by decide +kernel
theorem dX7_hour_89 : decode cX7_hour 89 = .ok (.iload_n 3, 1) := by decide +kernel
theorem dX7_hour_90 : decode cX7_hour 90 = .ok (.ireturn, 1) := by decide +kernel
theorem dX7_hour_91 : decode cX7_hour 91 = .ok (.iload_n 3, 1) := by decide +kernel
theorem dX7_hour_92 : decode cX7_hour 92 = .ok (.iconst (-1), 1) := by decide +kernel
theorem dX7_hour_93 : decode cX7_hour 93 = .ok (.if_icmp .ne 8, 3) := by decide +kernel
theorem dX7_hour_96 : decode cX7_hour 96 = .ok (.bipush (-4), 2) := by decide +kernel
theorem dX7_hour_98 : decode cX7_hour 98 = .ok (.goto 12, 3) := by decide +kernel
theorem dX7_hour_101 : decode cX7_hour 101 = .ok (.aload_n 0, 1) := by decide +kernel
theorem dX7_hour_102 : decode cX7_hour 102 = .ok (.getfield 19, 3) := by decide +kernel
theorem dX7_hour_105 : decode cX7_hour 105 = .ok (.bipush 14, 2) := by decide +kernel
theorem dX7_hour_107 : decode cX7_hour 107 = .ok (.iload_n 1, 1) := by decide +kernel
theorem dX7_hour_108 : decode cX7_hour 108 = .ok (.iadd, 1) := by decide +kernel
theorem dX7_hour_109 : decode cX7_hour 109 = .ok (.iaload, 1) := by decide +kernel
theorem dX7_hour_110 : decode cX7_hour 110 = .ok (.ireturn, 1) := by decide +kernel
theorem dX7_hour_111 : decode cX7_hour 111 = .ok (.iload_n 3, 1) := by decide +kernel
theorem dX7_hour_112 : decode cX7_hour 112 = .ok (.iconst (-1), 1) := by decide +kernel
theorem dX7_hour_113 : decode cX7_hour 113 = .ok (.if_icmp .ne 8, 3) := by decide +kernel
theorem dX7_hour_116 : decode cX7_hour 116 = .ok (.bipush (-4), 2) := by decide +kernel
theorem dX7_hour_118 : decode cX7_hour 118 = .ok (.goto 35, 3) := by decide +kernel
theorem dX7_hour_121 : decode cX7_hour 121 = .ok (.aload_n 0, 1) := by decide +kernel
theorem dX7_hour_122 : decode cX7_hour 122 = .ok (.getfield 13, 3) := by decide +kernel
theorem dX7_hour_125 : decode cX7_hour 125 = .ok (.iconst 2, 1) := by decide +kernel
theorem dX7_hour_126 : decode cX7_hour 126 = .ok (.iload_n 1, 1) := by decide +kernel
theorem dX7_hour_127 : decode cX7_hour 127 = .ok (.iadd, 1) := by decide +kernel
theorem dX7_hour_128 : decode cX7_hour 128 = .ok (.iaload, 1) := by decide +kernel
theorem dX7_hour_129 : decode cX7_hour 129 = .ok (.aload_n 0, 1) := by decide +kernel
theorem dX7_hour_130 : decode cX7_hour 130 = .ok (.aload_n 0, 1) := by decide +kernel
theorem dX7_hour_131 : decode cX7_hour 131 = .ok (.iload_n 3, 1) := by decide +kernel
theorem dX7_hour_132 : decode cX7_hour 132 = .ok (.aload_n 0, 1) := by decide +kernel
theorem dX7_hour_133 : decode cX7_hour 133 = .ok (.getfield 19, 3) := by decide +kernel
theorem dX7_hour_136 : decode cX7_hour 136 = .ok (.bipush 14, 2) := by decide +kernel
theorem dX7_hour_138 : decode cX7_hour 138 = .ok (.iload_n 1, 1) := by decide +kernel
theorem dX7_hour_139 : decode cX7_hour 139 = .ok (.iadd, 1) := by decide +kernel
theorem dX7_hour_140 : decode cX7_hour 140 = .ok (.iaload, 1) := by decide +kernel
theorem dX7_hour_141 : decode cX7_hour 141 = .ok (.iconst 1, 1) := by decide +kernel
theorem dX7_hour_142 : decode cX7_hour 142 = .ok (.isub, 1) := by decide +kernel
theorem dX7_hour_143 : decode cX7_hour 143 = .ok (.invokevirtual 64, 3) := by decide +kernel
theorem dX7_hour_146 : decode cX7_hour 146 = .ok (.iconst 0, 1) := by decide +kernel
theorem dX7_hour_147 : decode cX7_hour 147 = .ok (.invokevirtual 68, 3) := by decide +kernel
theorem dX7_hour_150 : decode cX7_hour 150 = .ok (.invokestatic 72, 3) := by decide +kernel
theorem dX7_hour_153 : decode cX7_hour 153 = .ok (.ireturn, 1) := by decide +kernel
theorem dX7_fits_0 : decode cX7_fits 0 = .ok (.aload_n 0, 1) := by decide +kernel
theorem dX7_fits_1 : decode cX7_fits 1 = .ok (.iload_n 1, 1) := by decide +kernel
theorem dX7_fits_2 : decode cX7_fits 2 = .ok (.invokevirtual 133, 3) := by decide +kernel
theorem dX7_fits_5 : decode cX7_fits 5 = .ok (.ifCond .eq 11, 3) := by decide +kernel
theorem dX7_fits_8 : decode cX7_fits 8 = .ok (.aload_n 0, 1) := by decide +kernel
theorem dX7_fits_9 : decode cX7_fits 9 = .ok (.iload_n 2, 1) := by decide +kernel
theorem dX7_fits_10 : decode cX7_fits 10 = .ok (.invokevirtual 130, 3) := by decide +kernel
theorem dX7_fits_13 : decode cX7_fits 13 = .ok (.ifCond .ne 5, 3) := by decide +kernel
theorem dX7_fits_16 : decode cX7_fits 16 = .ok (.iconst (-1), 1) := by decide +kernel
theorem dX7_fits_17 : decode cX7_fits 17 = .ok (.ireturn, 1) := by decide +kernel
theorem dX7_fits_18 : decode cX7_fits 18 = .ok (.aload_n 0, 1) := by decide +kernel
theorem dX7_fits_19 : decode cX7_fits 19 = .ok (.getfield 19, 3) := by decide +kernel
theorem dX7_fits_22 : decode cX7_fits 22 = .ok (.bipush 7, 2) := by decide +kernel
theorem dX7_fits_24 : decode cX7_fits 24 = .ok (.iload_n 1, 1) := by decide +kernel
theorem dX7_fits_25 : decode cX7_fits 25 = .ok (.iadd, 1) := by decide +kernel
theorem dX7_fits_26 : decode cX7_fits 26 = .ok (.iaload, 1) := by decide +kernel
theorem dX7_fits_27 : decode cX7_fits 27 = .ok (.iload_n 2, 1) := by decide +kernel
theorem dX7_fits_28 : decode cX7_fits 28 = .ok (.if_icmp .eq 24, 3) := by decide +kernel
theorem dX7_fits_31 : decode cX7_fits 31 = .ok (.aload_n 0, 1) := by decide +kernel
theorem dX7_fits_32 : decode cX7_fits 32 = .ok (.aload_n 0, 1) := by decide +kernel
theorem dX7_fits_33 : decode cX7_fits 33 = .ok (.getfield 13, 3) := by decide +kernel
theorem dX7_fits_36 : decode cX7_fits 36 = .ok (.iconst 2, 1) := by decide +kernel
theorem dX7_fits_37 : decode cX7_fits 37 = .ok (.iload_n 1, 1) := by decide +kernel
theorem dX7_fits_38 : decode cX7_fits 38 = .ok (.iadd, 1) := by decide +kernel
theorem dX7_fits_39 : decode cX7_fits 39 = .ok (.iaload, 1) := by decide +kernel
theorem dX7_fits_40 : decode cX7_fits 40 = .ok (.iload_n 2, 1) := by decide +kernel
theorem dX7_fits_41 : decode cX7_fits 41 = .ok (.iconst 0, 1) := by decide +kernel
theorem dX7_fits_42 : decode cX7_fits 42 = .ok (.invokevirtual 103, 3) := by decide +kernel
theorem dX7_fits_45 : decode cX7_fits 45 = .ok (.ifCond .eq 7, 3) := by decide +kernel
theorem dX7_fits_48 : decode cX7_fits 48 = .ok (.iconst 1, 1) := by decide +kernel
theorem dX7_fits_49 : decode cX7_fits 49 = .ok (.goto 4, 3) := by decide +kernel
theorem dX7_fits_52 : decode cX7_fits 52 = .ok (.iconst 0, 1) := by decide +kernel
theorem dX7_fits_53 : decode cX7_fits 53 = .ok (.ireturn, 1) := by decide +kernel
theorem dX7_isFrost_0 : decode cX7_isFrost 0 = .ok (.aload_n 0, 1) := by decide +kernel
theorem dX7_isFrost_1 : decode cX7_isFrost 1 = .ok (.getfield 19, 3) := by decide +kernel
theorem dX7_isFrost_4 : decode cX7_isFrost 4 = .ok (.iconst 0, 1) := by decide +kernel
theorem dX7_isFrost_5 : decode cX7_isFrost 5 = .ok (.iaload, 1) := by decide +kernel
theorem dX7_isFrost_6 : decode cX7_isFrost 6 = .ok (.bipush 40, 2) := by decide +kernel
theorem dX7_isFrost_8 : decode cX7_isFrost 8 = .ok (.if_icmp .ge 25, 3) := by decide +kernel
theorem dX7_isFrost_11 : decode cX7_isFrost 11 = .ok (.aload_n 0, 1) := by decide +kernel
theorem dX7_isFrost_12 : decode cX7_isFrost 12 = .ok (.getfield 13, 3) := by decide +kernel
theorem dX7_isFrost_15 : decode cX7_isFrost 15 = .ok (.bipush 16, 2) := by decide +kernel
theorem dX7_isFrost_17 : decode cX7_isFrost 17 = .ok (.aload_n 0, 1) := by decide +kernel
theorem dX7_isFrost_18 : decode cX7_isFrost 18 = .ok (.getfield 19, 3) := by decide +kernel
theorem dX7_isFrost_21 : decode cX7_isFrost 21 = .ok (.iconst 0, 1) := by decide +kernel
theorem dX7_isFrost_22 : decode cX7_isFrost 22 = .ok (.iaload, 1) := by decide +kernel
theorem dX7_isFrost_23 : decode cX7_isFrost 23 = .ok (.iadd, 1) := by decide +kernel
theorem dX7_isFrost_24 : decode cX7_isFrost 24 = .ok (.iaload, 1) := by decide +kernel
theorem dX7_isFrost_25 : decode cX7_isFrost 25 = .ok (.iconst 1, 1) := by decide +kernel
theorem dX7_isFrost_26 : decode cX7_isFrost 26 = .ok (.if_icmp .ne 7, 3) := by decide +kernel
theorem dX7_isFrost_29 : decode cX7_isFrost 29 = .ok (.iconst 1, 1) := by decide +kernel
theorem dX7_isFrost_30 : decode cX7_isFrost 30 = .ok (.goto 4, 3) := by decide +kernel
theorem dX7_isFrost_33 : decode cX7_isFrost 33 = .ok (.iconst 0, 1) := by decide +kernel
theorem dX7_isFrost_34 : decode cX7_isFrost 34 = .ok (.ireturn, 1) := by decide +kernel
theorem dX7_passes_0 : decode cX7_passes 0 = .ok (.aload_n 0, 1) := by decide +kernel
theorem dX7_passes_1 : decode cX7_passes 1 = .ok (.aload_n 0, 1) := by decide +kernel
theorem dX7_passes_2 : decode cX7_passes 2 = .ok (.getfield 19, 3) := by decide +kernel
theorem dX7_passes_5 : decode cX7_passes 5 = .ok (.iconst 0, 1) := by decide +kernel
theorem dX7_passes_6 : decode cX7_passes 6 = .ok (.iaload, 1) := by decide +kernel
theorem dX7_passes_7 : decode cX7_passes 7 = .ok (.aload_n 0, 1) := by decide +kernel
theorem dX7_passes_8 : decode cX7_passes 8 = .ok (.getfield 13, 3) := by decide +kernel
theorem dX7_passes_11 : decode cX7_passes 11 = .ok (.iconst 0, 1) := by decide +kernel
theorem dX7_passes_12 : decode cX7_passes 12 = .ok (.iaload, 1) := by decide +kernel
theorem dX7_passes_13 : decode cX7_passes 13 = .ok (.irem, 1) := by decide +kernel
theorem dX7_passes_14 : decode cX7_passes 14 = .ok (.invokevirtual 75, 3) := by decide +kernel
theorem dX7_passes_17 : decode cX7_passes 17 = .ok (.istore_n 2, 1) := by decide +kernel
theorem dX7_passes_18 : decode cX7_passes 18 = .ok (.aload_n 0, 1) := by decide +kernel
theorem dX7_passes_19 : decode cX7_passes 19 = .ok (.iload_n 2, 1) := by decide +kernel
theorem dX7_passes_20 : decode cX7_passes 20 = .ok (.iconst 0, 1) := by decide +kernel
theorem dX7_passes_21 : decode cX7_passes 21 = .ok (.invokevirtual 68, 3) := by decide +kernel
theorem dX7_passes_24 : decode cX7_passes 24 = .ok (.istore_n 3, 1) := by decide +kernel
theorem dX7_passes_25 : decode cX7_passes 25 = .ok (.iload_n 1, 1) := by decide +kernel
theorem dX7_passes_26 : decode cX7_passes 26 = .ok (.ifCond .eq 16, 3) := by decide +kernel
theorem dX7_passes_29 : decode cX7_passes 29 = .ok (.iload_n 3, 1) := by decide +kernel
theorem dX7_passes_30 : decode cX7_passes 30 = .ok (.ifCond .eq 8, 3) := by decide +kernel
theorem dX7_passes_33 : decode cX7_passes 33 = .ok (.iload_n 3, 1) := by decide +kernel
theorem dX7_passes_34 : decode cX7_passes 34 = .ok (.iconst 2, 1) := by decide +kernel
theorem dX7_passes_35 : decode cX7_passes 35 = .ok (.if_icmp .ne 7, 3) := by decide +kernel
theorem dX7_passes_38 : decode cX7_passes 38 = .ok (.iconst 1, 1) := by decide +kernel
theorem dX7_passes_39 : decode cX7_passes 39 = .ok (.goto 4, 3) := by decide +kernel
theorem dX7_passes_42 : decode cX7_passes 42 = .ok (.iconst 0, 1) := by decide +kernel
theorem dX7_passes_43 : decode cX7_passes 43 = .ok (.istore 4, 2) := by decide +kernel
theorem dX7_passes_45 : decode cX7_passes 45 = .ok (.iload 4, 2) := by decide +kernel
theorem dX7_passes_47 : decode cX7_passes 47 = .ok (.ifCond .eq 9, 3) := by decide +kernel
theorem dX7_passes_50 : decode cX7_passes 50 = .ok (.aload_n 0, 1) := by decide +kernel
theorem dX7_passes_51 : decode cX7_passes 51 = .ok (.iload_n 2, 1) := by decide +kernel
theorem dX7_passes_52 : decode cX7_passes 52 = .ok (.invokevirtual 136, 3) := by decide +kernel
theorem dX7_passes_55 : decode cX7_passes 55 = .ok (.pop, 1) := by decide +kernel
theorem dX7_passes_56 : decode cX7_passes 56 = .ok (.aload_n 0, 1) := by decide +kernel
theorem dX7_passes_57 : decode cX7_passes 57 = .ok (.getfield 19, 3) := by decide +kernel
theorem dX7_passes_60 : decode cX7_passes 60 = .ok (.iconst 0, 1) := by decide +kernel
theorem dX7_passes_61 : decode cX7_passes 61 = .ok (.dup2, 1) := by decide +kernel
theorem dX7_passes_62 : decode cX7_passes 62 = .ok (.iaload, 1) := by decide +kernel
theorem dX7_passes_63 : decode cX7_passes 63 = .ok (.iconst 1, 1) := by decide +kernel
theorem dX7_passes_64 : decode cX7_passes 64 = .ok (.iadd, 1) := by decide +kernel
theorem dX7_passes_65 : decode cX7_passes 65 = .ok (.iastore, 1) := by decide +kernel
theorem dX7_passes_66 : decode cX7_passes 66 = .ok (.iload 4, 2) := by decide +kernel
theorem dX7_passes_68 : decode cX7_passes 68 = .ok (.ireturn, 1) := by decide +kernel
theorem dX7_keeps_0 : decode cX7_keeps 0 = .ok (.aload_n 0, 1) := by decide +kernel
theorem dX7_keeps_1 : decode cX7_keeps 1 = .ok (.getfield 121, 3) := by decide +kernel
theorem dX7_keeps_4 : decode cX7_keeps 4 = .ok (.bipush 8, 2) := by decide +kernel
theorem dX7_keeps_6 : decode cX7_keeps 6 = .ok (.if_icmp .ne 43, 3) := by decide +kernel
theorem dX7_keeps_9 : decode cX7_keeps 9 = .ok (.iconst 0, 1) := by decide +kernel
theorem dX7_keeps_10 : decode cX7_keeps 10 = .ok (.istore_n 1, 1) := by decide +kernel
theorem dX7_keeps_11 : decode cX7_keeps 11 = .ok (.iload_n 1, 1) := by decide +kernel
theorem dX7_keeps_12 : decode cX7_keeps 12 = .ok (.sipush 147, 3) := by decide +kernel
theorem dX7_keeps_15 : decode cX7_keeps 15 = .ok (.if_icmp .ge 24, 3) := by decide +kernel
theorem dX7_keeps_18 : decode cX7_keeps 18 = .ok (.aload_n 0, 1) := by decide +kernel
theorem dX7_keeps_19 : decode cX7_keeps 19 = .ok (.getfield 22, 3) := by decide +kernel
theorem dX7_keeps_22 : decode cX7_keeps 22 = .ok (.iload_n 1, 1) := by decide +kernel
theorem dX7_keeps_23 : decode cX7_keeps 23 = .ok (.aload_n 0, 1) := by decide +kernel
theorem dX7_keeps_24 : decode cX7_keeps 24 = .ok (.getfield 22, 3) := by decide +kernel
theorem dX7_keeps_27 : decode cX7_keeps 27 = .ok (.iload_n 1, 1) := by decide +kernel
theorem dX7_keeps_28 : decode cX7_keeps 28 = .ok (.bipush 21, 2) := by decide +kernel
theorem dX7_keeps_30 : decode cX7_keeps 30 = .ok (.iadd, 1) := by decide +kernel
theorem dX7_keeps_31 : decode cX7_keeps 31 = .ok (.iaload, 1) := by decide +kernel
theorem dX7_keeps_32 : decode cX7_keeps 32 = .ok (.iastore, 1) := by decide +kernel
theorem dX7_keeps_33 : decode cX7_keeps 33 = .ok (.iinc 1 1, 3) := by decide +kernel
theorem dX7_keeps_36 : decode cX7_keeps 36 = .ok (.goto (-25), 3) := by decide +kernel
theorem dX7_keeps_39 : decode cX7_keeps 39 = .ok (.aload_n 0, 1) := by decide +kernel
theorem dX7_keeps_40 : decode cX7_keeps 40 = .ok (.dup, 1) := by decide +kernel
theorem dX7_keeps_41 : decode cX7_keeps 41 = .ok (.getfield 121, 3) := by decide +kernel
theorem dX7_keeps_44 : decode cX7_keeps 44 = .ok (.iconst 1, 1) := by decide +kernel
theorem dX7_keeps_45 : decode cX7_keeps 45 = .ok (.isub, 1) := by decide +kernel
theorem dX7_keeps_46 : decode cX7_keeps 46 = .ok (.putfield 121, 3) := by decide +kernel
theorem dX7_keeps_49 : decode cX7_keeps 49 = .ok (.iconst 0, 1) := by decide +kernel
theorem dX7_keeps_50 : decode cX7_keeps 50 = .ok (.istore_n 1, 1) := by decide +kernel
theorem dX7_keeps_51 : decode cX7_keeps 51 = .ok (.iload_n 1, 1) := by decide +kernel
theorem dX7_keeps_52 : decode cX7_keeps 52 = .ok (.bipush 21, 2) := by decide +kernel
theorem dX7_keeps_54 : decode cX7_keeps 54 = .ok (.if_icmp .ge 29, 3) := by decide +kernel
theorem dX7_keeps_57 : decode cX7_keeps 57 = .ok (.aload_n 0, 1) := by decide +kernel
theorem dX7_keeps_58 : decode cX7_keeps 58 = .ok (.getfield 22, 3) := by decide +kernel
theorem dX7_keeps_61 : decode cX7_keeps 61 = .ok (.bipush 21, 2) := by decide +kernel
theorem dX7_keeps_63 : decode cX7_keeps 63 = .ok (.aload_n 0, 1) := by decide +kernel
theorem dX7_keeps_64 : decode cX7_keeps 64 = .ok (.getfield 121, 3) := by decide +kernel
theorem dX7_keeps_67 : decode cX7_keeps 67 = .ok (.imul, 1) := by decide +kernel
theorem dX7_keeps_68 : decode cX7_keeps 68 = .ok (.iload_n 1, 1) := by decide +kernel
theorem dX7_keeps_69 : decode cX7_keeps 69 = .ok (.iadd, 1) := by decide +kernel
theorem dX7_keeps_70 : decode cX7_keeps 70 = .ok (.aload_n 0, 1) := by decide +kernel
theorem dX7_keeps_71 : decode cX7_keeps 71 = .ok (.getfield 19, 3) := by decide +kernel
theorem dX7_keeps_74 : decode cX7_keeps 74 = .ok (.iload_n 1, 1) := by decide +kernel
theorem dX7_keeps_75 : decode cX7_keeps 75 = .ok (.iaload, 1) := by decide +kernel
theorem dX7_keeps_76 : decode cX7_keeps 76 = .ok (.iastore, 1) := by decide +kernel
theorem dX7_keeps_77 : decode cX7_keeps 77 = .ok (.iinc 1 1, 3) := by decide +kernel
theorem dX7_keeps_80 : decode cX7_keeps 80 = .ok (.goto (-29), 3) := by decide +kernel
theorem dX7_keeps_83 : decode cX7_keeps 83 = .ok (.aload_n 0, 1) := by decide +kernel
theorem dX7_keeps_84 : decode cX7_keeps 84 = .ok (.dup, 1) := by decide +kernel
theorem dX7_keeps_85 : decode cX7_keeps 85 = .ok (.getfield 121, 3) := by decide +kernel
theorem dX7_keeps_88 : decode cX7_keeps 88 = .ok (.iconst 1, 1) := by decide +kernel
theorem dX7_keeps_89 : decode cX7_keeps 89 = .ok (.iadd, 1) := by decide +kernel
theorem dX7_keeps_90 : decode cX7_keeps 90 = .ok (.putfield 121, 3) := by decide +kernel
theorem dX7_keeps_93 : decode cX7_keeps 93 = .ok (.return_, 1) := by decide +kernel
theorem dX7_pass_0 : decode cX7_pass 0 = .ok (.iload_n 1, 1) := by decide +kernel
theorem dX7_pass_1 : decode cX7_pass 1 = .ok (.iconst 1, 1) := by decide +kernel
theorem dX7_pass_2 : decode cX7_pass 2 = .ok (.bipush 20, 2) := by decide +kernel
theorem dX7_pass_4 : decode cX7_pass 4 = .ok (.invokestatic 56, 3) := by decide +kernel
theorem dX7_pass_7 : decode cX7_pass 7 = .ok (.ifCond .ne 5, 3) := by decide +kernel
theorem dX7_pass_10 : decode cX7_pass 10 = .ok (.iconst (-1), 1) := by decide +kernel
theorem dX7_pass_11 : decode cX7_pass 11 = .ok (.ireturn, 1) := by decide +kernel
theorem dX7_pass_12 : decode cX7_pass 12 = .ok (.aload_n 0, 1) := by decide +kernel
theorem dX7_pass_13 : decode cX7_pass 13 = .ok (.getfield 19, 3) := by decide +kernel
theorem dX7_pass_16 : decode cX7_pass 16 = .ok (.iconst 0, 1) := by decide +kernel
theorem dX7_pass_17 : decode cX7_pass 17 = .ok (.iaload, 1) := by decide +kernel
theorem dX7_pass_18 : decode cX7_pass 18 = .ok (.iload_n 1, 1) := by decide +kernel
theorem dX7_pass_19 : decode cX7_pass 19 = .ok (.iadd, 1) := by decide +kernel
theorem dX7_pass_20 : decode cX7_pass 20 = .ok (.sipush 999, 3) := by decide +kernel
theorem dX7_pass_23 : decode cX7_pass 23 = .ok (.if_icmp .le 6, 3) := by decide +kernel
theorem dX7_pass_26 : decode cX7_pass 26 = .ok (.bipush (-2), 2) := by decide +kernel
theorem dX7_pass_28 : decode cX7_pass 28 = .ok (.ireturn, 1) := by decide +kernel
theorem dX7_pass_29 : decode cX7_pass 29 = .ok (.aload_n 0, 1) := by decide +kernel
theorem dX7_pass_30 : decode cX7_pass 30 = .ok (.invokevirtual 139, 3) := by decide +kernel
theorem dX7_pass_33 : decode cX7_pass 33 = .ok (.iconst 0, 1) := by decide +kernel
theorem dX7_pass_34 : decode cX7_pass 34 = .ok (.istore_n 2, 1) := by decide +kernel
theorem dX7_pass_35 : decode cX7_pass 35 = .ok (.iconst 0, 1) := by decide +kernel
theorem dX7_pass_36 : decode cX7_pass 36 = .ok (.istore_n 3, 1) := by decide +kernel
theorem dX7_pass_37 : decode cX7_pass 37 = .ok (.iload_n 3, 1) := by decide +kernel
theorem dX7_pass_38 : decode cX7_pass 38 = .ok (.iload_n 1, 1) := by decide +kernel
theorem dX7_pass_39 : decode cX7_pass 39 = .ok (.if_icmp .ge 25, 3) := by decide +kernel
theorem dX7_pass_42 : decode cX7_pass 42 = .ok (.iload_n 2, 1) := by decide +kernel
theorem dX7_pass_43 : decode cX7_pass 43 = .ok (.aload_n 0, 1) := by decide +kernel
theorem dX7_pass_44 : decode cX7_pass 44 = .ok (.iconst 1, 1) := by decide +kernel
theorem dX7_pass_45 : decode cX7_pass 45 = .ok (.invokevirtual 142, 3) := by decide +kernel
theorem dX7_pass_48 : decode cX7_pass 48 = .ok (.ifCond .eq 7, 3) := by decide +kernel
theorem dX7_pass_51 : decode cX7_pass 51 = .ok (.iconst 1, 1) := by decide +kernel
theorem dX7_pass_52 : decode cX7_pass 52 = .ok (.goto 4, 3) := by decide +kernel
theorem dX7_pass_55 : decode cX7_pass 55 = .ok (.iconst 0, 1) := by decide +kernel
theorem dX7_pass_56 : decode cX7_pass 56 = .ok (.iadd, 1) := by decide +kernel
theorem dX7_pass_57 : decode cX7_pass 57 = .ok (.istore_n 2, 1) := by decide +kernel
theorem dX7_pass_58 : decode cX7_pass 58 = .ok (.iinc 3 1, 3) := by decide +kernel
theorem dX7_pass_61 : decode cX7_pass 61 = .ok (.goto (-24), 3) := by decide +kernel
theorem dX7_pass_64 : decode cX7_pass 64 = .ok (.iload_n 2, 1) := by decide +kernel
theorem dX7_pass_65 : decode cX7_pass 65 = .ok (.ireturn, 1) := by decide +kernel
theorem dX7_mayPut_0 : decode cX7_mayPut 0 = .ok (.aload_n 0, 1) := by decide +kernel
theorem dX7_mayPut_1 : decode cX7_mayPut 1 = .ok (.getfield 19, 3) := by decide +kernel
theorem dX7_mayPut_4 : decode cX7_mayPut 4 = .ok (.bipush 7, 2) := by decide +kernel
theorem dX7_mayPut_6 : decode cX7_mayPut 6 = .ok (.iload_n 1, 1) := by decide +kernel
theorem dX7_mayPut_7 : decode cX7_mayPut 7 = .ok (.iadd, 1) := by decide +kernel
theorem dX7_mayPut_8 : decode cX7_mayPut 8 = .ok (.iaload, 1) := by decide +kernel
theorem dX7_mayPut_9 : decode cX7_mayPut 9 = .ok (.iconst (-1), 1) := by decide +kernel
theorem dX7_mayPut_10 : decode cX7_mayPut 10 = .ok (.if_icmp .ne 24, 3) := by decide +kernel
theorem dX7_mayPut_13 : decode cX7_mayPut 13 = .ok (.aload_n 0, 1) := by decide +kernel
theorem dX7_mayPut_14 : decode cX7_mayPut 14 = .ok (.aload_n 0, 1) := by decide +kernel
theorem dX7_mayPut_15 : decode cX7_mayPut 15 = .ok (.getfield 13, 3) := by decide +kernel
theorem dX7_mayPut_18 : decode cX7_mayPut 18 = .ok (.iconst 2, 1) := by decide +kernel
theorem dX7_mayPut_19 : decode cX7_mayPut 19 = .ok (.iload_n 1, 1) := by decide +kernel
theorem dX7_mayPut_20 : decode cX7_mayPut 20 = .ok (.iadd, 1) := by decide +kernel
theorem dX7_mayPut_21 : decode cX7_mayPut 21 = .ok (.iaload, 1) := by decide +kernel
theorem dX7_mayPut_22 : decode cX7_mayPut 22 = .ok (.iload_n 2, 1) := by decide +kernel
theorem dX7_mayPut_23 : decode cX7_mayPut 23 = .ok (.iconst 0, 1) := by decide +kernel
theorem dX7_mayPut_24 : decode cX7_mayPut 24 = .ok (.invokevirtual 103, 3) := by decide +kernel
theorem dX7_mayPut_27 : decode cX7_mayPut 27 = .ok (.ifCond .eq 7, 3) := by decide +kernel
theorem dX7_mayPut_30 : decode cX7_mayPut 30 = .ok (.iconst 1, 1) := by decide +kernel
theorem dX7_mayPut_31 : decode cX7_mayPut 31 = .ok (.goto 4, 3) := by decide +kernel
theorem dX7_mayPut_34 : decode cX7_mayPut 34 = .ok (.iconst 0, 1) := by decide +kernel
theorem dX7_mayPut_35 : decode cX7_mayPut 35 = .ok (.ireturn, 1) := by decide +kernel
theorem dX7_put_0 : decode cX7_put 0 = .ok (.aload_n 0, 1) := by decide +kernel
theorem dX7_put_1 : decode cX7_put 1 = .ok (.iload_n 1, 1) := by decide +kernel
theorem dX7_put_2 : decode cX7_put 2 = .ok (.invokevirtual 133, 3) := by decide +kernel
theorem dX7_put_5 : decode cX7_put 5 = .ok (.ifCond .eq 11, 3) := by decide +kernel
theorem dX7_put_8 : decode cX7_put 8 = .ok (.aload_n 0, 1) := by decide +kernel
theorem dX7_put_9 : decode cX7_put 9 = .ok (.iload_n 2, 1) := by decide +kernel
theorem dX7_put_10 : decode cX7_put 10 = .ok (.invokevirtual 130, 3) := by decide +kernel
theorem dX7_put_13 : decode cX7_put 13 = .ok (.ifCond .ne 5, 3) := by decide +kernel
theorem dX7_put_16 : decode cX7_put 16 = .ok (.iconst (-1), 1) := by decide +kernel
theorem dX7_put_17 : decode cX7_put 17 = .ok (.ireturn, 1) := by decide +kernel
theorem dX7_put_18 : decode cX7_put 18 = .ok (.aload_n 0, 1) := by decide +kernel
theorem dX7_put_19 : decode cX7_put 19 = .ok (.iload_n 1, 1) := by decide +kernel
theorem dX7_put_20 : decode cX7_put 20 = .ok (.iload_n 2, 1) := by decide +kernel
theorem dX7_put_21 : decode cX7_put 21 = .ok (.invokevirtual 145, 3) := by decide +kernel
theorem dX7_put_24 : decode cX7_put 24 = .ok (.ifCond .eq 10, 3) := by decide +kernel
theorem dX7_put_27 : decode cX7_put 27 = .ok (.aload_n 0, 1) := by decide +kernel
theorem dX7_put_28 : decode cX7_put 28 = .ok (.invokevirtual 149, 3) := by decide +kernel
theorem dX7_put_31 : decode cX7_put 31 = .ok (.ifCond .eq 6, 3) := by decide +kernel
theorem dX7_put_34 : decode cX7_put 34 = .ok (.bipush (-2), 2) := by decide +kernel
theorem dX7_put_36 : decode cX7_put 36 = .ok (.ireturn, 1) := by decide +kernel
theorem dX7_put_37 : decode cX7_put 37 = .ok (.aload_n 0, 1) := by decide +kernel
theorem dX7_put_38 : decode cX7_put 38 = .ok (.invokevirtual 139, 3) := by decide +kernel
theorem dX7_put_41 : decode cX7_put 41 = .ok (.aload_n 0, 1) := by decide +kernel
theorem dX7_put_42 : decode cX7_put 42 = .ok (.iload_n 1, 1) := by decide +kernel
theorem dX7_put_43 : decode cX7_put 43 = .ok (.iload_n 2, 1) := by decide +kernel
theorem dX7_put_44 : decode cX7_put 44 = .ok (.invokevirtual 95, 3) := by decide +kernel
theorem dX7_put_47 : decode cX7_put 47 = .ok (.aload_n 0, 1) := by decide +kernel
theorem dX7_put_48 : decode cX7_put 48 = .ok (.getfield 19, 3) := by decide +kernel
theorem dX7_put_51 : decode cX7_put 51 = .ok (.iconst 2, 1) := by decide +kernel
theorem dX7_put_52 : decode cX7_put 52 = .ok (.iload_n 2, 1) := by decide +kernel
theorem dX7_put_53 : decode cX7_put 53 = .ok (.iadd, 1) := by decide +kernel
theorem dX7_put_54 : decode cX7_put 54 = .ok (.iaload, 1) := by decide +kernel
theorem dX7_put_55 : decode cX7_put 55 = .ok (.aload_n 0, 1) := by decide +kernel
theorem dX7_put_56 : decode cX7_put 56 = .ok (.iload_n 2, 1) := by decide +kernel
theorem dX7_put_57 : decode cX7_put 57 = .ok (.iconst 0, 1) := by decide +kernel
theorem dX7_put_58 : decode cX7_put 58 = .ok (.invokevirtual 78, 3) := by decide +kernel
theorem dX7_put_61 : decode cX7_put 61 = .ok (.isub, 1) := by decide +kernel
theorem dX7_put_62 : decode cX7_put 62 = .ok (.ireturn, 1) := by decide +kernel
theorem dX7_up_0 : decode cX7_up 0 = .ok (.aload_n 0, 1) := by decide +kernel
theorem dX7_up_1 : decode cX7_up 1 = .ok (.iload_n 1, 1) := by decide +kernel
theorem dX7_up_2 : decode cX7_up 2 = .ok (.invokevirtual 133, 3) := by decide +kernel
theorem dX7_up_5 : decode cX7_up 5 = .ok (.ifCond .ne 5, 3) := by decide +kernel
theorem dX7_up_8 : decode cX7_up 8 = .ok (.iconst (-1), 1) := by decide +kernel
theorem dX7_up_9 : decode cX7_up 9 = .ok (.ireturn, 1) := by decide +kernel
theorem dX7_up_10 : decode cX7_up 10 = .ok (.aload_n 0, 1) := by decide +kernel
theorem dX7_up_11 : decode cX7_up 11 = .ok (.getfield 19, 3) := by decide +kernel
theorem dX7_up_14 : decode cX7_up 14 = .ok (.bipush 7, 2) := by decide +kernel
theorem dX7_up_16 : decode cX7_up 16 = .ok (.iload_n 1, 1) := by decide +kernel
theorem dX7_up_17 : decode cX7_up 17 = .ok (.iadd, 1) := by decide +kernel
theorem dX7_up_18 : decode cX7_up 18 = .ok (.iaload, 1) := by decide +kernel
theorem dX7_up_19 : decode cX7_up 19 = .ok (.iconst (-1), 1) := by decide +kernel
theorem dX7_up_20 : decode cX7_up 20 = .ok (.if_icmp .ne 6, 3) := by decide +kernel
theorem dX7_up_23 : decode cX7_up 23 = .ok (.bipush (-2), 2) := by decide +kernel
theorem dX7_up_25 : decode cX7_up 25 = .ok (.ireturn, 1) := by decide +kernel
theorem dX7_up_26 : decode cX7_up 26 = .ok (.aload_n 0, 1) := by decide +kernel
theorem dX7_up_27 : decode cX7_up 27 = .ok (.invokevirtual 139, 3) := by decide +kernel
theorem dX7_up_30 : decode cX7_up 30 = .ok (.aload_n 0, 1) := by decide +kernel
theorem dX7_up_31 : decode cX7_up 31 = .ok (.iload_n 1, 1) := by decide +kernel
theorem dX7_up_32 : decode cX7_up 32 = .ok (.invokevirtual 136, 3) := by decide +kernel
theorem dX7_up_35 : decode cX7_up 35 = .ok (.istore_n 2, 1) := by decide +kernel
theorem dX7_up_36 : decode cX7_up 36 = .ok (.aload_n 0, 1) := by decide +kernel
theorem dX7_up_37 : decode cX7_up 37 = .ok (.getfield 19, 3) := by decide +kernel
theorem dX7_up_40 : decode cX7_up 40 = .ok (.iconst 1, 1) := by decide +kernel
theorem dX7_up_41 : decode cX7_up 41 = .ok (.dup2, 1) := by decide +kernel
theorem dX7_up_42 : decode cX7_up 42 = .ok (.iaload, 1) := by decide +kernel
theorem dX7_up_43 : decode cX7_up 43 = .ok (.iload_n 2, 1) := by decide +kernel
theorem dX7_up_44 : decode cX7_up 44 = .ok (.iadd, 1) := by decide +kernel
theorem dX7_up_45 : decode cX7_up 45 = .ok (.iastore, 1) := by decide +kernel
theorem dX7_up_46 : decode cX7_up 46 = .ok (.iload_n 2, 1) := by decide +kernel
theorem dX7_up_47 : decode cX7_up 47 = .ok (.ireturn, 1) := by decide +kernel
theorem dX7_dig_0 : decode cX7_dig 0 = .ok (.aload_n 0, 1) := by decide +kernel
theorem dX7_dig_1 : decode cX7_dig 1 = .ok (.iload_n 1, 1) := by decide +kernel
theorem dX7_dig_2 : decode cX7_dig 2 = .ok (.invokevirtual 130, 3) := by decide +kernel
theorem dX7_dig_5 : decode cX7_dig 5 = .ok (.ifCond .ne 5, 3) := by decide +kernel
theorem dX7_dig_8 : decode cX7_dig 8 = .ok (.iconst (-1), 1) := by decide +kernel
theorem dX7_dig_9 : decode cX7_dig 9 = .ok (.ireturn, 1) := by decide +kernel
theorem dX7_dig_10 : decode cX7_dig 10 = .ok (.aload_n 0, 1) := by decide +kernel
theorem dX7_dig_11 : decode cX7_dig 11 = .ok (.getfield 19, 3) := by decide +kernel
theorem dX7_dig_14 : decode cX7_dig 14 = .ok (.iconst 2, 1) := by decide +kernel
theorem dX7_dig_15 : decode cX7_dig 15 = .ok (.iload_n 1, 1) := by decide +kernel
theorem dX7_dig_16 : decode cX7_dig 16 = .ok (.iadd, 1) := by decide +kernel
theorem dX7_dig_17 : decode cX7_dig 17 = .ok (.iaload, 1) := by decide +kernel
theorem dX7_dig_18 : decode cX7_dig 18 = .ok (.bipush 9, 2) := by decide +kernel
theorem dX7_dig_20 : decode cX7_dig 20 = .ok (.if_icmp .ne 6, 3) := by decide +kernel
theorem dX7_dig_23 : decode cX7_dig 23 = .ok (.bipush (-2), 2) := by decide +kernel
theorem dX7_dig_25 : decode cX7_dig 25 = .ok (.ireturn, 1) := by decide +kernel
theorem dX7_dig_26 : decode cX7_dig 26 = .ok (.aload_n 0, 1) := by decide +kernel
theorem dX7_dig_27 : decode cX7_dig 27 = .ok (.invokevirtual 139, 3) := by decide +kernel
theorem dX7_dig_30 : decode cX7_dig 30 = .ok (.aload_n 0, 1) := by decide +kernel
theorem dX7_dig_31 : decode cX7_dig 31 = .ok (.getfield 19, 3) := by decide +kernel
theorem dX7_dig_34 : decode cX7_dig 34 = .ok (.iconst 2, 1) := by decide +kernel
theorem dX7_dig_35 : decode cX7_dig 35 = .ok (.iload_n 1, 1) := by decide +kernel
theorem dX7_dig_36 : decode cX7_dig 36 = .ok (.iadd, 1) := by decide +kernel
theorem dX7_dig_37 : decode cX7_dig 37 = .ok (.dup2, 1) := by decide +kernel
theorem dX7_dig_38 : decode cX7_dig 38 = .ok (.iaload, 1) := by decide +kernel
theorem dX7_dig_39 : decode cX7_dig 39 = .ok (.iconst 1, 1) := by decide +kernel
theorem dX7_dig_40 : decode cX7_dig 40 = .ok (.iadd, 1) := by decide +kernel
theorem dX7_dig_41 : decode cX7_dig 41 = .ok (.iastore, 1) := by decide +kernel
theorem dX7_dig_42 : decode cX7_dig 42 = .ok (.aload_n 0, 1) := by decide +kernel
theorem dX7_dig_43 : decode cX7_dig 43 = .ok (.getfield 19, 3) := by decide +kernel
theorem dX7_dig_46 : decode cX7_dig 46 = .ok (.iconst 2, 1) := by decide +kernel
theorem dX7_dig_47 : decode cX7_dig 47 = .ok (.iload_n 1, 1) := by decide +kernel
theorem dX7_dig_48 : decode cX7_dig 48 = .ok (.iadd, 1) := by decide +kernel
theorem dX7_dig_49 : decode cX7_dig 49 = .ok (.iaload, 1) := by decide +kernel
theorem dX7_dig_50 : decode cX7_dig 50 = .ok (.ireturn, 1) := by decide +kernel
theorem dX7_undo_0 : decode cX7_undo 0 = .ok (.aload_n 0, 1) := by decide +kernel
theorem dX7_undo_1 : decode cX7_undo 1 = .ok (.getfield 121, 3) := by decide +kernel
theorem dX7_undo_4 : decode cX7_undo 4 = .ok (.ifCond .ne 6, 3) := by decide +kernel
theorem dX7_undo_7 : decode cX7_undo 7 = .ok (.bipush (-2), 2) := by decide +kernel
theorem dX7_undo_9 : decode cX7_undo 9 = .ok (.ireturn, 1) := by decide +kernel
theorem dX7_undo_10 : decode cX7_undo 10 = .ok (.aload_n 0, 1) := by decide +kernel
theorem dX7_undo_11 : decode cX7_undo 11 = .ok (.dup, 1) := by decide +kernel
theorem dX7_undo_12 : decode cX7_undo 12 = .ok (.getfield 121, 3) := by decide +kernel
theorem dX7_undo_15 : decode cX7_undo 15 = .ok (.iconst 1, 1) := by decide +kernel
theorem dX7_undo_16 : decode cX7_undo 16 = .ok (.isub, 1) := by decide +kernel
theorem dX7_undo_17 : decode cX7_undo 17 = .ok (.putfield 121, 3) := by decide +kernel
theorem dX7_undo_20 : decode cX7_undo 20 = .ok (.iconst 0, 1) := by decide +kernel
theorem dX7_undo_21 : decode cX7_undo 21 = .ok (.istore_n 1, 1) := by decide +kernel
theorem dX7_undo_22 : decode cX7_undo 22 = .ok (.iload_n 1, 1) := by decide +kernel
theorem dX7_undo_23 : decode cX7_undo 23 = .ok (.bipush 21, 2) := by decide +kernel
theorem dX7_undo_25 : decode cX7_undo 25 = .ok (.if_icmp .ge 29, 3) := by decide +kernel
theorem dX7_undo_28 : decode cX7_undo 28 = .ok (.aload_n 0, 1) := by decide +kernel
theorem dX7_undo_29 : decode cX7_undo 29 = .ok (.getfield 19, 3) := by decide +kernel
theorem dX7_undo_32 : decode cX7_undo 32 = .ok (.iload_n 1, 1) := by decide +kernel
theorem dX7_undo_33 : decode cX7_undo 33 = .ok (.aload_n 0, 1) := by decide +kernel
theorem dX7_undo_34 : decode cX7_undo 34 = .ok (.getfield 22, 3) := by decide +kernel
theorem dX7_undo_37 : decode cX7_undo 37 = .ok (.bipush 21, 2) := by decide +kernel
theorem dX7_undo_39 : decode cX7_undo 39 = .ok (.aload_n 0, 1) := by decide +kernel
theorem dX7_undo_40 : decode cX7_undo 40 = .ok (.getfield 121, 3) := by decide +kernel
theorem dX7_undo_43 : decode cX7_undo 43 = .ok (.imul, 1) := by decide +kernel
theorem dX7_undo_44 : decode cX7_undo 44 = .ok (.iload_n 1, 1) := by decide +kernel
theorem dX7_undo_45 : decode cX7_undo 45 = .ok (.iadd, 1) := by decide +kernel
theorem dX7_undo_46 : decode cX7_undo 46 = .ok (.iaload, 1) := by decide +kernel
theorem dX7_undo_47 : decode cX7_undo 47 = .ok (.iastore, 1) := by decide +kernel
theorem dX7_undo_48 : decode cX7_undo 48 = .ok (.iinc 1 1, 3) := by decide +kernel
theorem dX7_undo_51 : decode cX7_undo 51 = .ok (.goto (-29), 3) := by decide +kernel
theorem dX7_undo_54 : decode cX7_undo 54 = .ok (.aload_n 0, 1) := by decide +kernel
theorem dX7_undo_55 : decode cX7_undo 55 = .ok (.getfield 121, 3) := by decide +kernel
theorem dX7_undo_58 : decode cX7_undo 58 = .ok (.ireturn, 1) := by decide +kernel
theorem dX7_looks_0 : decode cX7_looks 0 = .ok (.iconst 0, 1) := by decide +kernel
theorem dX7_looks_1 : decode cX7_looks 1 = .ok (.istore_n 1, 1) := by decide +kernel
theorem dX7_looks_2 : decode cX7_looks 2 = .ok (.iload_n 1, 1) := by decide +kernel
theorem dX7_looks_3 : decode cX7_looks 3 = .ok (.bipush 21, 2) := by decide +kernel
theorem dX7_looks_5 : decode cX7_looks 5 = .ok (.if_icmp .ge 21, 3) := by decide +kernel
theorem dX7_looks_8 : decode cX7_looks 8 = .ok (.aload_n 0, 1) := by decide +kernel
theorem dX7_looks_9 : decode cX7_looks 9 = .ok (.getfield 31, 3) := by decide +kernel
theorem dX7_looks_12 : decode cX7_looks 12 = .ok (.iload_n 1, 1) := by decide +kernel
theorem dX7_looks_13 : decode cX7_looks 13 = .ok (.aload_n 0, 1) := by decide +kernel
theorem dX7_looks_14 : decode cX7_looks 14 = .ok (.getfield 19, 3) := by decide +kernel
theorem dX7_looks_17 : decode cX7_looks 17 = .ok (.iload_n 1, 1) := by decide +kernel
theorem dX7_looks_18 : decode cX7_looks 18 = .ok (.iaload, 1) := by decide +kernel
theorem dX7_looks_19 : decode cX7_looks 19 = .ok (.iastore, 1) := by decide +kernel
theorem dX7_looks_20 : decode cX7_looks 20 = .ok (.iinc 1 1, 3) := by decide +kernel
theorem dX7_looks_23 : decode cX7_looks 23 = .ok (.goto (-21), 3) := by decide +kernel
theorem dX7_looks_26 : decode cX7_looks 26 = .ok (.return_, 1) := by decide +kernel
theorem dX7_lets_0 : decode cX7_lets 0 = .ok (.iconst 0, 1) := by decide +kernel
theorem dX7_lets_1 : decode cX7_lets 1 = .ok (.istore_n 1, 1) := by decide +kernel
theorem dX7_lets_2 : decode cX7_lets 2 = .ok (.iload_n 1, 1) := by decide +kernel
theorem dX7_lets_3 : decode cX7_lets 3 = .ok (.bipush 21, 2) := by decide +kernel
theorem dX7_lets_5 : decode cX7_lets 5 = .ok (.if_icmp .ge 21, 3) := by decide +kernel
theorem dX7_lets_8 : decode cX7_lets 8 = .ok (.aload_n 0, 1) := by decide +kernel
theorem dX7_lets_9 : decode cX7_lets 9 = .ok (.getfield 19, 3) := by decide +kernel
theorem dX7_lets_12 : decode cX7_lets 12 = .ok (.iload_n 1, 1) := by decide +kernel
theorem dX7_lets_13 : decode cX7_lets 13 = .ok (.aload_n 0, 1) := by decide +kernel
theorem dX7_lets_14 : decode cX7_lets 14 = .ok (.getfield 31, 3) := by decide +kernel
theorem dX7_lets_17 : decode cX7_lets 17 = .ok (.iload_n 1, 1) := by decide +kernel
theorem dX7_lets_18 : decode cX7_lets 18 = .ok (.iaload, 1) := by decide +kernel
theorem dX7_lets_19 : decode cX7_lets 19 = .ok (.iastore, 1) := by decide +kernel
theorem dX7_lets_20 : decode cX7_lets 20 = .ok (.iinc 1 1, 3) := by decide +kernel
theorem dX7_lets_23 : decode cX7_lets 23 = .ok (.goto (-21), 3) := by decide +kernel
theorem dX7_lets_26 : decode cX7_lets 26 = .ok (.return_, 1) := by decide +kernel
theorem dX7_out_0 : decode cX7_out 0 = .ok (.aload_n 0, 1) := by decide +kernel
theorem dX7_out_1 : decode cX7_out 1 = .ok (.iload_n 1, 1) := by decide +kernel
theorem dX7_out_2 : decode cX7_out 2 = .ok (.invokevirtual 133, 3) := by decide +kernel
theorem dX7_out_5 : decode cX7_out 5 = .ok (.ifCond .ne 5, 3) := by decide +kernel
theorem dX7_out_8 : decode cX7_out 8 = .ok (.iconst (-1), 1) := by decide +kernel
theorem dX7_out_9 : decode cX7_out 9 = .ok (.ireturn, 1) := by decide +kernel
theorem dX7_out_10 : decode cX7_out 10 = .ok (.aload_n 0, 1) := by decide +kernel
theorem dX7_out_11 : decode cX7_out 11 = .ok (.invokevirtual 153, 3) := by decide +kernel
theorem dX7_out_14 : decode cX7_out 14 = .ok (.iconst 0, 1) := by decide +kernel
theorem dX7_out_15 : decode cX7_out 15 = .ok (.istore_n 2, 1) := by decide +kernel
theorem dX7_out_16 : decode cX7_out 16 = .ok (.iload_n 2, 1) := by decide +kernel
theorem dX7_out_17 : decode cX7_out 17 = .ok (.bipush 60, 2) := by decide +kernel
theorem dX7_out_19 : decode cX7_out 19 = .ok (.if_icmp .gt 28, 3) := by decide +kernel
theorem dX7_out_22 : decode cX7_out 22 = .ok (.aload_n 0, 1) := by decide +kernel
theorem dX7_out_23 : decode cX7_out 23 = .ok (.getfield 19, 3) := by decide +kernel
theorem dX7_out_26 : decode cX7_out 26 = .ok (.bipush 7, 2) := by decide +kernel
theorem dX7_out_28 : decode cX7_out 28 = .ok (.iload_n 1, 1) := by decide +kernel
theorem dX7_out_29 : decode cX7_out 29 = .ok (.iadd, 1) := by decide +kernel
theorem dX7_out_30 : decode cX7_out 30 = .ok (.iaload, 1) := by decide +kernel
theorem dX7_out_31 : decode cX7_out 31 = .ok (.iconst (-1), 1) := by decide +kernel
theorem dX7_out_32 : decode cX7_out 32 = .ok (.if_icmp .eq 15, 3) := by decide +kernel
theorem dX7_out_35 : decode cX7_out 35 = .ok (.aload_n 0, 1) := by decide +kernel
theorem dX7_out_36 : decode cX7_out 36 = .ok (.iconst 1, 1) := by decide +kernel
theorem dX7_out_37 : decode cX7_out 37 = .ok (.invokevirtual 142, 3) := by decide +kernel
theorem dX7_out_40 : decode cX7_out 40 = .ok (.pop, 1) := by decide +kernel
theorem dX7_out_41 : decode cX7_out 41 = .ok (.iinc 2 1, 3) := by decide +kernel
theorem dX7_out_44 : decode cX7_out 44 = .ok (.goto (-28), 3) := by decide +kernel
theorem dX7_out_47 : decode cX7_out 47 = .ok (.aload_n 0, 1) := by decide +kernel
theorem dX7_out_48 : decode cX7_out 48 = .ok (.invokevirtual 118, 3) := by decide +kernel
theorem dX7_out_51 : decode cX7_out 51 = .ok (.iload_n 2, 1) := by decide +kernel
theorem dX7_out_52 : decode cX7_out 52 = .ok (.bipush 60, 2) := by decide +kernel
theorem dX7_out_54 : decode cX7_out 54 = .ok (.if_icmp .le 8, 3) := by decide +kernel
theorem dX7_out_57 : decode cX7_out 57 = .ok (.bipush (-4), 2) := by decide +kernel
theorem dX7_out_59 : decode cX7_out 59 = .ok (.goto 4, 3) := by decide +kernel
theorem dX7_out_62 : decode cX7_out 62 = .ok (.iload_n 2, 1) := by decide +kernel
theorem dX7_out_63 : decode cX7_out 63 = .ok (.ireturn, 1) := by decide +kernel
theorem dX7_behind_0 : decode cX7_behind 0 = .ok (.iload_n 1, 1) := by decide +kernel
theorem dX7_behind_1 : decode cX7_behind 1 = .ok (.iconst 0, 1) := by decide +kernel
theorem dX7_behind_2 : decode cX7_behind 2 = .ok (.bipush 60, 2) := by decide +kernel
theorem dX7_behind_4 : decode cX7_behind 4 = .ok (.invokestatic 56, 3) := by decide +kernel
theorem dX7_behind_7 : decode cX7_behind 7 = .ok (.ifCond .eq 11, 3) := by decide +kernel
theorem dX7_behind_10 : decode cX7_behind 10 = .ok (.aload_n 0, 1) := by decide +kernel
theorem dX7_behind_11 : decode cX7_behind 11 = .ok (.iload_n 2, 1) := by decide +kernel
theorem dX7_behind_12 : decode cX7_behind 12 = .ok (.invokevirtual 133, 3) := by decide +kernel
theorem dX7_behind_15 : decode cX7_behind 15 = .ok (.ifCond .ne 5, 3) := by decide +kernel
theorem dX7_behind_18 : decode cX7_behind 18 = .ok (.iconst (-1), 1) := by decide +kernel
theorem dX7_behind_19 : decode cX7_behind 19 = .ok (.ireturn, 1) := by decide +kernel
theorem dX7_behind_20 : decode cX7_behind 20 = .ok (.aload_n 0, 1) := by decide +kernel
theorem dX7_behind_21 : decode cX7_behind 21 = .ok (.invokevirtual 153, 3) := by decide +kernel
theorem dX7_behind_24 : decode cX7_behind 24 = .ok (.iconst 0, 1) := by decide +kernel
theorem dX7_behind_25 : decode cX7_behind 25 = .ok (.istore_n 3, 1) := by decide +kernel
theorem dX7_behind_26 : decode cX7_behind 26 = .ok (.iload_n 3, 1) := by decide +kernel
theorem dX7_behind_27 : decode cX7_behind 27 = .ok (.iload_n 1, 1) := by decide +kernel
theorem dX7_behind_28 : decode cX7_behind 28 = .ok (.if_icmp .ge 15, 3) := by decide +kernel
theorem dX7_behind_31 : decode cX7_behind 31 = .ok (.aload_n 0, 1) := by decide +kernel
theorem dX7_behind_32 : decode cX7_behind 32 = .ok (.iconst 1, 1) := by decide +kernel
theorem dX7_behind_33 : decode cX7_behind 33 = .ok (.invokevirtual 142, 3) := by decide +kernel
theorem dX7_behind_36 : decode cX7_behind 36 = .ok (.pop, 1) := by decide +kernel
theorem dX7_behind_37 : decode cX7_behind 37 = .ok (.iinc 3 1, 3) := by decide +kernel
theorem dX7_behind_40 : decode cX7_behind 40 = .ok (.goto (-14), 3) := by decide +kernel
theorem dX7_behind_43 : decode cX7_behind 43 = .ok (.aload_n 0, 1) := by decide +kernel
theorem dX7_behind_44 : decode cX7_behind 44 = .ok (.getfield 19, 3) := by decide +kernel
theorem dX7_behind_47 : decode cX7_behind 47 = .ok (.bipush 7, 2) := by decide +kernel
theorem dX7_behind_49 : decode cX7_behind 49 = .ok (.iload_n 2, 1) := by decide +kernel
theorem dX7_behind_50 : decode cX7_behind 50 = .ok (.iadd, 1) := by decide +kernel
theorem dX7_behind_51 : decode cX7_behind 51 = .ok (.iaload, 1) := by decide +kernel
theorem dX7_behind_52 : decode cX7_behind 52 = .ok (.istore_n 3, 1) := by decide +kernel
theorem dX7_behind_53 : decode cX7_behind 53 = .ok (.aload_n 0, 1) := by decide +kernel
theorem dX7_behind_54 : decode cX7_behind 54 = .ok (.invokevirtual 118, 3) := by decide +kernel
theorem dX7_behind_57 : decode cX7_behind 57 = .ok (.iload_n 3, 1) := by decide +kernel
theorem dX7_behind_58 : decode cX7_behind 58 = .ok (.iconst (-1), 1) := by decide +kernel
theorem dX7_behind_59 : decode cX7_behind 59 = .ok (.if_icmp .ne 8, 3) := by decide +kernel
theorem dX7_behind_62 : decode cX7_behind 62 = .ok (.bipush (-4), 2) := by decide +kernel
theorem dX7_behind_64 : decode cX7_behind 64 = .ok (.goto 4, 3) := by decide +kernel
theorem dX7_behind_67 : decode cX7_behind 67 = .ok (.iload_n 3, 1) := by decide +kernel
theorem dX7_behind_68 : decode cX7_behind 68 = .ok (.ireturn, 1) := by decide +kernel
theorem dX7_aboveOf_0 : decode cX7_aboveOf 0 = .ok (.iconst 0, 1) := by decide +kernel
theorem dX7_aboveOf_1 : decode cX7_aboveOf 1 = .ok (.istore_n 2, 1) := by decide +kernel
theorem dX7_aboveOf_2 : decode cX7_aboveOf 2 = .ok (.iconst 0, 1) := by decide +kernel
theorem dX7_aboveOf_3 : decode cX7_aboveOf 3 = .ok (.istore_n 3, 1) := by decide +kernel
theorem dX7_aboveOf_4 : decode cX7_aboveOf 4 = .ok (.iload_n 3, 1) := by decide +kernel
theorem dX7_aboveOf_5 : decode cX7_aboveOf 5 = .ok (.bipush 7, 2) := by decide +kernel
theorem dX7_aboveOf_7 : decode cX7_aboveOf 7 = .ok (.if_icmp .ge 74, 3) := by decide +kernel
theorem dX7_aboveOf_10 : decode cX7_aboveOf 10 = .ok (.iload_n 2, 1) := by decide +kernel
theorem dX7_aboveOf_11 : decode cX7_aboveOf 11 = .ok (.aload_n 0, 1) := by decide +kernel
theorem dX7_aboveOf_12 : decode cX7_aboveOf 12 = .ok (.getfield 19, 3) := by decide +kernel
theorem dX7_aboveOf_15 : decode cX7_aboveOf 15 = .ok (.bipush 7, 2) := by decide +kernel
theorem dX7_aboveOf_17 : decode cX7_aboveOf 17 = .ok (.iload_n 1, 1) := by decide +kernel
theorem dX7_aboveOf_18 : decode cX7_aboveOf 18 = .ok (.iadd, 1) := by decide +kernel
theorem dX7_aboveOf_19 : decode cX7_aboveOf 19 = .ok (.iaload, 1) := by decide +kernel
theorem dX7_aboveOf_20 : decode cX7_aboveOf 20 = .ok (.iconst (-1), 1) := by decide +kernel
theorem dX7_aboveOf_21 : decode cX7_aboveOf 21 = .ok (.if_icmp .eq 51, 3) := by decide +kernel
theorem dX7_aboveOf_24 : decode cX7_aboveOf 24 = .ok (.aload_n 0, 1) := by decide +kernel
theorem dX7_aboveOf_25 : decode cX7_aboveOf 25 = .ok (.getfield 19, 3) := by decide +kernel
theorem dX7_aboveOf_28 : decode cX7_aboveOf 28 = .ok (.bipush 7, 2) := by decide +kernel
theorem dX7_aboveOf_30 : decode cX7_aboveOf 30 = .ok (.iload_n 3, 1) := by decide +kernel
theorem dX7_aboveOf_31 : decode cX7_aboveOf 31 = .ok (.iadd, 1) := by decide +kernel
theorem dX7_aboveOf_32 : decode cX7_aboveOf 32 = .ok (.iaload, 1) := by decide +kernel
theorem dX7_aboveOf_33 : decode cX7_aboveOf 33 = .ok (.aload_n 0, 1) := by decide +kernel
theorem dX7_aboveOf_34 : decode cX7_aboveOf 34 = .ok (.getfield 19, 3) := by decide +kernel
theorem dX7_aboveOf_37 : decode cX7_aboveOf 37 = .ok (.bipush 7, 2) := by decide +kernel
theorem dX7_aboveOf_39 : decode cX7_aboveOf 39 = .ok (.iload_n 1, 1) := by decide +kernel
theorem dX7_aboveOf_40 : decode cX7_aboveOf 40 = .ok (.iadd, 1) := by decide +kernel
theorem dX7_aboveOf_41 : decode cX7_aboveOf 41 = .ok (.iaload, 1) := by decide +kernel
theorem dX7_aboveOf_42 : decode cX7_aboveOf 42 = .ok (.if_icmp .ne 30, 3) := by decide +kernel
theorem dX7_aboveOf_45 : decode cX7_aboveOf 45 = .ok (.aload_n 0, 1) := by decide +kernel
theorem dX7_aboveOf_46 : decode cX7_aboveOf 46 = .ok (.getfield 19, 3) := by decide +kernel
theorem dX7_aboveOf_49 : decode cX7_aboveOf 49 = .ok (.bipush 14, 2) := by decide +kernel
theorem dX7_aboveOf_51 : decode cX7_aboveOf 51 = .ok (.iload_n 3, 1) := by decide +kernel
theorem dX7_aboveOf_52 : decode cX7_aboveOf 52 = .ok (.iadd, 1) := by decide +kernel
theorem dX7_aboveOf_53 : decode cX7_aboveOf 53 = .ok (.iaload, 1) := by decide +kernel
theorem dX7_aboveOf_54 : decode cX7_aboveOf 54 = .ok (.aload_n 0, 1) := by decide +kernel
theorem dX7_aboveOf_55 : decode cX7_aboveOf 55 = .ok (.getfield 19, 3) := by decide +kernel
theorem dX7_aboveOf_58 : decode cX7_aboveOf 58 = .ok (.bipush 14, 2) := by decide +kernel
theorem dX7_aboveOf_60 : decode cX7_aboveOf 60 = .ok (.iload_n 1, 1) := by decide +kernel
theorem dX7_aboveOf_61 : decode cX7_aboveOf 61 = .ok (.iadd, 1) := by decide +kernel
theorem dX7_aboveOf_62 : decode cX7_aboveOf 62 = .ok (.iaload, 1) := by decide +kernel
theorem dX7_aboveOf_63 : decode cX7_aboveOf 63 = .ok (.if_icmp .le 9, 3) := by decide +kernel
theorem dX7_aboveOf_66 : decode cX7_aboveOf 66 = .ok (.iconst 1, 1) := by decide +kernel
theorem dX7_aboveOf_67 : decode cX7_aboveOf 67 = .ok (.iload_n 3, 1) := by decide +kernel
theorem dX7_aboveOf_68 : decode cX7_aboveOf 68 = .ok (.ishl, 1) := by decide +kernel
theorem dX7_aboveOf_69 : decode cX7_aboveOf 69 = .ok (.goto 4, 3) := by decide +kernel
theorem dX7_aboveOf_72 : decode cX7_aboveOf 72 = .ok (.iconst 0, 1) := by decide +kernel
theorem dX7_aboveOf_73 : decode cX7_aboveOf 73 = .ok (.ior, 1) := by decide +kernel
theorem dX7_aboveOf_74 : decode cX7_aboveOf 74 = .ok (.istore_n 2, 1) := by decide +kernel
theorem dX7_aboveOf_75 : decode cX7_aboveOf 75 = .ok (.iinc 3 1, 3) := by decide +kernel
theorem dX7_aboveOf_78 : decode cX7_aboveOf 78 = .ok (.goto (-74), 3) := by decide +kernel
theorem dX7_aboveOf_81 : decode cX7_aboveOf 81 = .ok (.iload_n 2, 1) := by decide +kernel
theorem dX7_aboveOf_82 : decode cX7_aboveOf 82 = .ok (.ireturn, 1) := by decide +kernel
theorem dX7_above_0 : decode cX7_above 0 = .ok (.aload_n 0, 1) := by decide +kernel
theorem dX7_above_1 : decode cX7_above 1 = .ok (.iload_n 1, 1) := by decide +kernel
theorem dX7_above_2 : decode cX7_above 2 = .ok (.invokevirtual 133, 3) := by decide +kernel
theorem dX7_above_5 : decode cX7_above 5 = .ok (.ifCond .eq 11, 3) := by decide +kernel
theorem dX7_above_8 : decode cX7_above 8 = .ok (.aload_n 0, 1) := by decide +kernel
theorem dX7_above_9 : decode cX7_above 9 = .ok (.iload_n 1, 1) := by decide +kernel
theorem dX7_above_10 : decode cX7_above 10 = .ok (.invokevirtual 156, 3) := by decide +kernel
theorem dX7_above_13 : decode cX7_above 13 = .ok (.goto 4, 3) := by decide +kernel
theorem dX7_above_16 : decode cX7_above 16 = .ok (.iconst (-1), 1) := by decide +kernel
theorem dX7_above_17 : decode cX7_above 17 = .ok (.ireturn, 1) := by decide +kernel
theorem dX7_marks_0 : decode cX7_marks 0 = .ok (.iconst 0, 1) := by decide +kernel
theorem dX7_marks_1 : decode cX7_marks 1 = .ok (.istore_n 1, 1) := by decide +kernel
theorem dX7_marks_2 : decode cX7_marks 2 = .ok (.iload_n 1, 1) := by decide +kernel
theorem dX7_marks_3 : decode cX7_marks 3 = .ok (.aload_n 0, 1) := by decide +kernel
theorem dX7_marks_4 : decode cX7_marks 4 = .ok (.getfield 13, 3) := by decide +kernel
theorem dX7_marks_7 : decode cX7_marks 7 = .ok (.iconst 1, 1) := by decide +kernel
theorem dX7_marks_8 : decode cX7_marks 8 = .ok (.iaload, 1) := by decide +kernel
theorem dX7_marks_9 : decode cX7_marks 9 = .ok (.if_icmp .ge 24, 3) := by decide +kernel
theorem dX7_marks_12 : decode cX7_marks 12 = .ok (.aload_n 0, 1) := by decide +kernel
theorem dX7_marks_13 : decode cX7_marks 13 = .ok (.getfield 34, 3) := by decide +kernel
theorem dX7_marks_16 : decode cX7_marks 16 = .ok (.iload_n 1, 1) := by decide +kernel
theorem dX7_marks_17 : decode cX7_marks 17 = .ok (.aload_n 0, 1) := by decide +kernel
theorem dX7_marks_18 : decode cX7_marks 18 = .ok (.getfield 19, 3) := by decide +kernel
theorem dX7_marks_21 : decode cX7_marks 21 = .ok (.bipush 7, 2) := by decide +kernel
theorem dX7_marks_23 : decode cX7_marks 23 = .ok (.iload_n 1, 1) := by decide +kernel
theorem dX7_marks_24 : decode cX7_marks 24 = .ok (.iadd, 1) := by decide +kernel
theorem dX7_marks_25 : decode cX7_marks 25 = .ok (.iaload, 1) := by decide +kernel
theorem dX7_marks_26 : decode cX7_marks 26 = .ok (.iastore, 1) := by decide +kernel
theorem dX7_marks_27 : decode cX7_marks 27 = .ok (.iinc 1 1, 3) := by decide +kernel
theorem dX7_marks_30 : decode cX7_marks 30 = .ok (.goto (-28), 3) := by decide +kernel
theorem dX7_marks_33 : decode cX7_marks 33 = .ok (.return_, 1) := by decide +kernel
theorem dX7_packed_0 : decode cX7_packed 0 = .ok (.iconst 0, 1) := by decide +kernel
theorem dX7_packed_1 : decode cX7_packed 1 = .ok (.istore_n 1, 1) := by decide +kernel
theorem dX7_packed_2 : decode cX7_packed 2 = .ok (.iconst 0, 1) := by decide +kernel
theorem dX7_packed_3 : decode cX7_packed 3 = .ok (.istore_n 2, 1) := by decide +kernel
theorem dX7_packed_4 : decode cX7_packed 4 = .ok (.iload_n 2, 1) := by decide +kernel
theorem dX7_packed_5 : decode cX7_packed 5 = .ok (.aload_n 0, 1) := by decide +kernel
theorem dX7_packed_6 : decode cX7_packed 6 = .ok (.getfield 13, 3) := by decide +kernel
theorem dX7_packed_9 : decode cX7_packed 9 = .ok (.iconst 1, 1) := by decide +kernel
theorem dX7_packed_10 : decode cX7_packed 10 = .ok (.iaload, 1) := by decide +kernel
theorem dX7_packed_11 : decode cX7_packed 11 = .ok (.if_icmp .ge 32, 3) := by decide +kernel
theorem dX7_packed_14 : decode cX7_packed 14 = .ok (.aload_n 0, 1) := by decide +kernel
theorem dX7_packed_15 : decode cX7_packed 15 = .ok (.getfield 19, 3) := by decide +kernel
theorem dX7_packed_18 : decode cX7_packed 18 = .ok (.bipush 7, 2) := by decide +kernel
theorem dX7_packed_20 : decode cX7_packed 20 = .ok (.iload_n 2, 1) := by decide +kernel
theorem dX7_packed_21 : decode cX7_packed 21 = .ok (.iadd, 1) := by decide +kernel
theorem dX7_packed_22 : decode cX7_packed 22 = .ok (.iaload, 1) := by decide +kernel
theorem dX7_packed_23 : decode cX7_packed 23 = .ok (.iconst (-1), 1) := by decide +kernel
theorem dX7_packed_24 : decode cX7_packed 24 = .ok (.if_icmp .ne 13, 3) := by decide +kernel
theorem dX7_packed_27 : decode cX7_packed 27 = .ok (.aload_n 0, 1) := by decide +kernel
theorem dX7_packed_28 : decode cX7_packed 28 = .ok (.getfield 37, 3) := by decide +kernel
theorem dX7_packed_31 : decode cX7_packed 31 = .ok (.iload_n 1, 1) := by decide +kernel
theorem dX7_packed_32 : decode cX7_packed 32 = .ok (.iload_n 2, 1) := by decide +kernel
theorem dX7_packed_33 : decode cX7_packed 33 = .ok (.iastore, 1) := by decide +kernel
theorem dX7_packed_34 : decode cX7_packed 34 = .ok (.iinc 1 1, 3) := by decide +kernel
theorem dX7_packed_37 : decode cX7_packed 37 = .ok (.iinc 2 1, 3) := by decide +kernel
theorem dX7_packed_40 : decode cX7_packed 40 = .ok (.goto (-36), 3) := by decide +kernel
theorem dX7_packed_43 : decode cX7_packed 43 = .ok (.aload_n 0, 1) := by decide +kernel
theorem dX7_packed_44 : decode cX7_packed 44 = .ok (.getfield 43, 3) := by decide +kernel
theorem dX7_packed_47 : decode cX7_packed 47 = .ok (.iload_n 1, 1) := by decide +kernel
theorem dX7_packed_48 : decode cX7_packed 48 = .ok (.iconst 0, 1) := by decide +kernel
theorem dX7_packed_49 : decode cX7_packed 49 = .ok (.iastore, 1) := by decide +kernel
theorem dX7_packed_50 : decode cX7_packed 50 = .ok (.iload_n 1, 1) := by decide +kernel
theorem dX7_packed_51 : decode cX7_packed 51 = .ok (.iconst 1, 1) := by decide +kernel
theorem dX7_packed_52 : decode cX7_packed 52 = .ok (.isub, 1) := by decide +kernel
theorem dX7_packed_53 : decode cX7_packed 53 = .ok (.istore_n 2, 1) := by decide +kernel
theorem dX7_packed_54 : decode cX7_packed 54 = .ok (.iload_n 2, 1) := by decide +kernel
theorem dX7_packed_55 : decode cX7_packed 55 = .ok (.ifCond .lt 38, 3) := by decide +kernel
theorem dX7_packed_58 : decode cX7_packed 58 = .ok (.aload_n 0, 1) := by decide +kernel
theorem dX7_packed_59 : decode cX7_packed 59 = .ok (.getfield 43, 3) := by decide +kernel
theorem dX7_packed_62 : decode cX7_packed 62 = .ok (.iload_n 2, 1) := by decide +kernel
theorem dX7_packed_63 : decode cX7_packed 63 = .ok (.aload_n 0, 1) := by decide +kernel
theorem dX7_packed_64 : decode cX7_packed 64 = .ok (.getfield 43, 3) := by decide +kernel
theorem dX7_packed_67 : decode cX7_packed 67 = .ok (.iload_n 2, 1) := by decide +kernel
theorem dX7_packed_68 : decode cX7_packed 68 = .ok (.iconst 1, 1) := by decide +kernel
theorem dX7_packed_69 : decode cX7_packed 69 = .ok (.iadd, 1) := by decide +kernel
theorem dX7_packed_70 : decode cX7_packed 70 = .ok (.iaload, 1) := by decide +kernel
theorem dX7_packed_71 : decode cX7_packed 71 = .ok (.aload_n 0, 1) := by decide +kernel
theorem dX7_packed_72 : decode cX7_packed 72 = .ok (.getfield 13, 3) := by decide +kernel
theorem dX7_packed_75 : decode cX7_packed 75 = .ok (.bipush 9, 2) := by decide +kernel
theorem dX7_packed_77 : decode cX7_packed 77 = .ok (.aload_n 0, 1) := by decide +kernel
theorem dX7_packed_78 : decode cX7_packed 78 = .ok (.getfield 37, 3) := by decide +kernel
theorem dX7_packed_81 : decode cX7_packed 81 = .ok (.iload_n 2, 1) := by decide +kernel
theorem dX7_packed_82 : decode cX7_packed 82 = .ok (.iaload, 1) := by decide +kernel
theorem dX7_packed_83 : decode cX7_packed 83 = .ok (.iadd, 1) := by decide +kernel
theorem dX7_packed_84 : decode cX7_packed 84 = .ok (.iaload, 1) := by decide +kernel
theorem dX7_packed_85 : decode cX7_packed 85 = .ok (.iadd, 1) := by decide +kernel
theorem dX7_packed_86 : decode cX7_packed 86 = .ok (.iastore, 1) := by decide +kernel
theorem dX7_packed_87 : decode cX7_packed 87 = .ok (.iinc 2 (-1), 3) := by decide +kernel
theorem dX7_packed_90 : decode cX7_packed 90 = .ok (.goto (-36), 3) := by decide +kernel
theorem dX7_packed_93 : decode cX7_packed 93 = .ok (.aload_n 0, 1) := by decide +kernel
theorem dX7_packed_94 : decode cX7_packed 94 = .ok (.invokevirtual 153, 3) := by decide +kernel
theorem dX7_packed_97 : decode cX7_packed 97 = .ok (.iconst (-1), 1) := by decide +kernel
theorem dX7_packed_98 : decode cX7_packed 98 = .ok (.istore_n 2, 1) := by decide +kernel
theorem dX7_packed_99 : decode cX7_packed 99 = .ok (.iconst 0, 1) := by decide +kernel
theorem dX7_packed_100 : decode cX7_packed 100 = .ok (.istore_n 3, 1) := by decide +kernel
theorem dX7_packed_101 : decode cX7_packed 101 = .ok (.iconst 0, 1) := by decide +kernel
theorem dX7_packed_102 : decode cX7_packed 102 = .ok (.istore 4, 2) := by decide +kernel
theorem dX7_packed_104 : decode cX7_packed 104 = .ok (.aload_n 0, 1) := by decide +kernel
theorem dX7_packed_105 : decode cX7_packed 105 = .ok (.getfield 40, 3) := by decide +kernel
theorem dX7_packed_108 : decode cX7_packed 108 = .ok (.iconst 0, 1) := by decide +kernel
theorem dX7_packed_109 : decode cX7_packed 109 = .ok (.iconst (-1), 1) := by decide +kernel
theorem dX7_packed_110 : decode cX7_packed 110 = .ok (.iastore, 1) := by decide +kernel
theorem dX7_packed_111 : decode cX7_packed 111 = .ok (.iload 4, 2) := by decide +kernel
theorem dX7_packed_113 : decode cX7_packed 113 = .ok (.ifCond .lt 248, 3) := by decide +kernel
theorem dX7_packed_116 : decode cX7_packed 116 = .ok (.iload 4, 2) := by decide +kernel
theorem dX7_packed_118 : decode cX7_packed 118 = .ok (.iload_n 1, 1) := by decide +kernel
theorem dX7_packed_119 : decode cX7_packed 119 = .ok (.if_icmp .ne 7, 3) := by decide +kernel
theorem dX7_packed_122 : decode cX7_packed 122 = .ok (.iconst 1, 1) := by decide +kernel
theorem dX7_packed_123 : decode cX7_packed 123 = .ok (.goto 4, 3) := by decide +kernel
theorem dX7_packed_126 : decode cX7_packed 126 = .ok (.iconst 0, 1) := by decide +kernel
theorem dX7_packed_127 : decode cX7_packed 127 = .ok (.istore 5, 2) := by decide +kernel
theorem dX7_packed_129 : decode cX7_packed 129 = .ok (.iload 5, 2) := by decide +kernel
theorem dX7_packed_131 : decode cX7_packed 131 = .ok (.ifCond .eq 14, 3) := by decide +kernel
theorem dX7_packed_134 : decode cX7_packed 134 = .ok (.iload_n 3, 1) := by decide +kernel
theorem dX7_packed_135 : decode cX7_packed 135 = .ok (.iload_n 2, 1) := by decide +kernel
theorem dX7_packed_136 : decode cX7_packed 136 = .ok (.if_icmp .le 9, 3) := by decide +kernel
theorem dX7_packed_139 : decode cX7_packed 139 = .ok (.iload_n 3, 1) := by decide +kernel
theorem dX7_packed_140 : decode cX7_packed 140 = .ok (.istore_n 2, 1) := by decide +kernel
theorem dX7_packed_141 : decode cX7_packed 141 = .ok (.aload_n 0, 1) := by decide +kernel
theorem dX7_packed_142 : decode cX7_packed 142 = .ok (.invokevirtual 159, 3) := by decide +kernel
theorem dX7_packed_145 : decode cX7_packed 145 = .ok (.iload 5, 2) := by decide +kernel
theorem dX7_packed_147 : decode cX7_packed 147 = .ok (.ifCond .eq 14, 3) := by decide +kernel
theorem dX7_packed_150 : decode cX7_packed 150 = .ok (.aload_n 0, 1) := by decide +kernel
theorem dX7_packed_151 : decode cX7_packed 151 = .ok (.getfield 13, 3) := by decide +kernel
theorem dX7_packed_154 : decode cX7_packed 154 = .ok (.iconst 0, 1) := by decide +kernel
theorem dX7_packed_155 : decode cX7_packed 155 = .ok (.iaload, 1) := by decide +kernel
theorem dX7_packed_156 : decode cX7_packed 156 = .ok (.iconst 1, 1) := by decide +kernel
theorem dX7_packed_157 : decode cX7_packed 157 = .ok (.iadd, 1) := by decide +kernel
theorem dX7_packed_158 : decode cX7_packed 158 = .ok (.goto 12, 3) := by decide +kernel
theorem dX7_packed_161 : decode cX7_packed 161 = .ok (.aload_n 0, 1) := by decide +kernel
theorem dX7_packed_162 : decode cX7_packed 162 = .ok (.getfield 40, 3) := by decide +kernel
theorem dX7_packed_165 : decode cX7_packed 165 = .ok (.iload 4, 2) := by decide +kernel
theorem dX7_packed_167 : decode cX7_packed 167 = .ok (.iaload, 1) := by decide +kernel
theorem dX7_packed_168 : decode cX7_packed 168 = .ok (.iconst 1, 1) := by decide +kernel
theorem dX7_packed_169 : decode cX7_packed 169 = .ok (.iadd, 1) := by decide +kernel
theorem dX7_packed_170 : decode cX7_packed 170 = .ok (.istore 6, 2) := by decide +kernel
theorem dX7_packed_172 : decode cX7_packed 172 = .ok (.iload 5, 2) := by decide +kernel
theorem dX7_packed_174 : decode cX7_packed 174 = .ok (.ifCond .ne 59, 3) := by decide +kernel
theorem dX7_packed_177 : decode cX7_packed 177 = .ok (.aload_n 0, 1) := by decide +kernel
theorem dX7_packed_178 : decode cX7_packed 178 = .ok (.getfield 40, 3) := by decide +kernel
theorem dX7_packed_181 : decode cX7_packed 181 = .ok (.iload 4, 2) := by decide +kernel
theorem dX7_packed_183 : decode cX7_packed 183 = .ok (.iaload, 1) := by decide +kernel
theorem dX7_packed_184 : decode cX7_packed 184 = .ok (.ifCond .lt 49, 3) := by decide +kernel
theorem dX7_packed_187 : decode cX7_packed 187 = .ok (.aload_n 0, 1) := by decide +kernel
theorem dX7_packed_188 : decode cX7_packed 188 = .ok (.getfield 40, 3) := by decide +kernel
theorem dX7_packed_191 : decode cX7_packed 191 = .ok (.iload 4, 2) := by decide +kernel
theorem dX7_packed_193 : decode cX7_packed 193 = .ok (.iaload, 1) := by decide +kernel
theorem dX7_packed_194 : decode cX7_packed 194 = .ok (.aload_n 0, 1) := by decide +kernel
theorem dX7_packed_195 : decode cX7_packed 195 = .ok (.getfield 13, 3) := by decide +kernel
theorem dX7_packed_198 : decode cX7_packed 198 = .ok (.iconst 0, 1) := by decide +kernel
theorem dX7_packed_199 : decode cX7_packed 199 = .ok (.iaload, 1) := by decide +kernel
theorem dX7_packed_200 : decode cX7_packed 200 = .ok (.if_icmp .ge 33, 3) := by decide +kernel
theorem dX7_packed_203 : decode cX7_packed 203 = .ok (.aload_n 0, 1) := by decide +kernel
theorem dX7_packed_204 : decode cX7_packed 204 = .ok (.aload_n 0, 1) := by decide +kernel
theorem dX7_packed_205 : decode cX7_packed 205 = .ok (.getfield 37, 3) := by decide +kernel
theorem dX7_packed_208 : decode cX7_packed 208 = .ok (.iload 4, 2) := by decide +kernel
theorem dX7_packed_210 : decode cX7_packed 210 = .ok (.iaload, 1) := by decide +kernel
theorem dX7_packed_211 : decode cX7_packed 211 = .ok (.invokevirtual 136, 3) := by decide +kernel
theorem dX7_packed_214 : decode cX7_packed 214 = .ok (.pop, 1) := by decide +kernel
theorem dX7_packed_215 : decode cX7_packed 215 = .ok (.iload_n 3, 1) := by decide +kernel
theorem dX7_packed_216 : decode cX7_packed 216 = .ok (.aload_n 0, 1) := by decide +kernel
theorem dX7_packed_217 : decode cX7_packed 217 = .ok (.getfield 13, 3) := by decide +kernel
theorem dX7_packed_220 : decode cX7_packed 220 = .ok (.bipush 9, 2) := by decide +kernel
theorem dX7_packed_222 : decode cX7_packed 222 = .ok (.aload_n 0, 1) := by decide +kernel
theorem dX7_packed_223 : decode cX7_packed 223 = .ok (.getfield 37, 3) := by decide +kernel
theorem dX7_packed_226 : decode cX7_packed 226 = .ok (.iload 4, 2) := by decide +kernel
theorem dX7_packed_228 : decode cX7_packed 228 = .ok (.iaload, 1) := by decide +kernel
theorem dX7_packed_229 : decode cX7_packed 229 = .ok (.iadd, 1) := by decide +kernel
theorem dX7_packed_230 : decode cX7_packed 230 = .ok (.iaload, 1) := by decide +kernel
theorem dX7_packed_231 : decode cX7_packed 231 = .ok (.isub, 1) := by decide +kernel
theorem dX7_packed_232 : decode cX7_packed 232 = .ok (.istore_n 3, 1) := by decide +kernel
theorem dX7_packed_233 : decode cX7_packed 233 = .ok (.iload 6, 2) := by decide +kernel
theorem dX7_packed_235 : decode cX7_packed 235 = .ok (.aload_n 0, 1) := by decide +kernel
theorem dX7_packed_236 : decode cX7_packed 236 = .ok (.getfield 13, 3) := by decide +kernel
theorem dX7_packed_239 : decode cX7_packed 239 = .ok (.iconst 0, 1) := by decide +kernel
theorem dX7_packed_240 : decode cX7_packed 240 = .ok (.iaload, 1) := by decide +kernel
theorem dX7_packed_241 : decode cX7_packed 241 = .ok (.if_icmp .ge 25, 3) := by decide +kernel
theorem dX7_packed_244 : decode cX7_packed 244 = .ok (.aload_n 0, 1) := by decide +kernel
theorem dX7_packed_245 : decode cX7_packed 245 = .ok (.aload_n 0, 1) := by decide +kernel
theorem dX7_packed_246 : decode cX7_packed 246 = .ok (.getfield 37, 3) := by decide +kernel
theorem dX7_packed_249 : decode cX7_packed 249 = .ok (.iload 4, 2) := by decide +kernel
theorem dX7_packed_251 : decode cX7_packed 251 = .ok (.iaload, 1) := by decide +kernel
theorem dX7_packed_252 : decode cX7_packed 252 = .ok (.iload 6, 2) := by decide +kernel
theorem dX7_packed_254 : decode cX7_packed 254 = .ok (.invokevirtual 145, 3) := by decide +kernel
theorem dX7_packed_257 : decode cX7_packed 257 = .ok (.ifCond .ne 9, 3) := by decide +kernel
theorem dX7_packed_260 : decode cX7_packed 260 = .ok (.iinc 6 1, 3) := by decide +kernel
theorem dX7_packed_263 : decode cX7_packed 263 = .ok (.goto (-30), 3) := by decide +kernel
theorem dX7_packed_266 : decode cX7_packed 266 = .ok (.iload 6, 2) := by decide +kernel
theorem dX7_packed_268 : decode cX7_packed 268 = .ok (.aload_n 0, 1) := by decide +kernel
theorem dX7_packed_269 : decode cX7_packed 269 = .ok (.getfield 13, 3) := by decide +kernel
theorem dX7_packed_272 : decode cX7_packed 272 = .ok (.iconst 0, 1) := by decide +kernel
theorem dX7_packed_273 : decode cX7_packed 273 = .ok (.iaload, 1) := by decide +kernel
theorem dX7_packed_274 : decode cX7_packed 274 = .ok (.if_icmp .gt 16, 3) := by decide +kernel
theorem dX7_packed_277 : decode cX7_packed 277 = .ok (.iload_n 3, 1) := by decide +kernel
theorem dX7_packed_278 : decode cX7_packed 278 = .ok (.aload_n 0, 1) := by decide +kernel
theorem dX7_packed_279 : decode cX7_packed 279 = .ok (.getfield 43, 3) := by decide +kernel
theorem dX7_packed_282 : decode cX7_packed 282 = .ok (.iload 4, 2) := by decide +kernel
theorem dX7_packed_284 : decode cX7_packed 284 = .ok (.iaload, 1) := by decide +kernel
theorem dX7_packed_285 : decode cX7_packed 285 = .ok (.iadd, 1) := by decide +kernel
theorem dX7_packed_286 : decode cX7_packed 286 = .ok (.iload_n 2, 1) := by decide +kernel
theorem dX7_packed_287 : decode cX7_packed 287 = .ok (.if_icmp .gt 9, 3) := by decide +kernel
theorem dX7_packed_290 : decode cX7_packed 290 = .ok (.iinc 4 (-1), 3) := by decide +kernel
theorem dX7_packed_293 : decode cX7_packed 293 = .ok (.goto 65, 3) := by decide +kernel
theorem dX7_packed_296 : decode cX7_packed 296 = .ok (.aload_n 0, 1) := by decide +kernel
theorem dX7_packed_297 : decode cX7_packed 297 = .ok (.getfield 40, 3) := by decide +kernel
theorem dX7_packed_300 : decode cX7_packed 300 = .ok (.iload 4, 2) := by decide +kernel
theorem dX7_packed_302 : decode cX7_packed 302 = .ok (.iload 6, 2) := by decide +kernel
theorem dX7_packed_304 : decode cX7_packed 304 = .ok (.iastore, 1) := by decide +kernel
theorem dX7_packed_305 : decode cX7_packed 305 = .ok (.iload 6, 2) := by decide +kernel
theorem dX7_packed_307 : decode cX7_packed 307 = .ok (.aload_n 0, 1) := by decide +kernel
theorem dX7_packed_308 : decode cX7_packed 308 = .ok (.getfield 13, 3) := by decide +kernel
theorem dX7_packed_311 : decode cX7_packed 311 = .ok (.iconst 0, 1) := by decide +kernel
theorem dX7_packed_312 : decode cX7_packed 312 = .ok (.iaload, 1) := by decide +kernel
theorem dX7_packed_313 : decode cX7_packed 313 = .ok (.if_icmp .ge 34, 3) := by decide +kernel
theorem dX7_packed_316 : decode cX7_packed 316 = .ok (.aload_n 0, 1) := by decide +kernel
theorem dX7_packed_317 : decode cX7_packed 317 = .ok (.aload_n 0, 1) := by decide +kernel
theorem dX7_packed_318 : decode cX7_packed 318 = .ok (.getfield 37, 3) := by decide +kernel
theorem dX7_packed_321 : decode cX7_packed 321 = .ok (.iload 4, 2) := by decide +kernel
theorem dX7_packed_323 : decode cX7_packed 323 = .ok (.iaload, 1) := by decide +kernel
theorem dX7_packed_324 : decode cX7_packed 324 = .ok (.iload 6, 2) := by decide +kernel
theorem dX7_packed_326 : decode cX7_packed 326 = .ok (.invokevirtual 95, 3) := by decide +kernel
theorem dX7_packed_329 : decode cX7_packed 329 = .ok (.iload_n 3, 1) := by decide +kernel
theorem dX7_packed_330 : decode cX7_packed 330 = .ok (.aload_n 0, 1) := by decide +kernel
theorem dX7_packed_331 : decode cX7_packed 331 = .ok (.getfield 13, 3) := by decide +kernel
theorem dX7_packed_334 : decode cX7_packed 334 = .ok (.bipush 9, 2) := by decide +kernel
theorem dX7_packed_336 : decode cX7_packed 336 = .ok (.aload_n 0, 1) := by decide +kernel
theorem dX7_packed_337 : decode cX7_packed 337 = .ok (.getfield 37, 3) := by decide +kernel
theorem dX7_packed_340 : decode cX7_packed 340 = .ok (.iload 4, 2) := by decide +kernel
theorem dX7_packed_342 : decode cX7_packed 342 = .ok (.iaload, 1) := by decide +kernel
theorem dX7_packed_343 : decode cX7_packed 343 = .ok (.iadd, 1) := by decide +kernel
theorem dX7_packed_344 : decode cX7_packed 344 = .ok (.iaload, 1) := by decide +kernel
theorem dX7_packed_345 : decode cX7_packed 345 = .ok (.iadd, 1) := by decide +kernel
theorem dX7_packed_346 : decode cX7_packed 346 = .ok (.istore_n 3, 1) := by decide +kernel
theorem dX7_packed_347 : decode cX7_packed 347 = .ok (.iinc 4 1, 3) := by decide +kernel
theorem dX7_packed_350 : decode cX7_packed 350 = .ok (.aload_n 0, 1) := by decide +kernel
theorem dX7_packed_351 : decode cX7_packed 351 = .ok (.getfield 40, 3) := by decide +kernel
theorem dX7_packed_354 : decode cX7_packed 354 = .ok (.iload 4, 2) := by decide +kernel
theorem dX7_packed_356 : decode cX7_packed 356 = .ok (.iconst (-1), 1) := by decide +kernel
theorem dX7_packed_357 : decode cX7_packed 357 = .ok (.iastore, 1) := by decide +kernel
theorem dX7_packed_358 : decode cX7_packed 358 = .ok (.goto (-247), 3) := by decide +kernel
theorem dX7_packed_361 : decode cX7_packed 361 = .ok (.aload_n 0, 1) := by decide +kernel
theorem dX7_packed_362 : decode cX7_packed 362 = .ok (.invokevirtual 118, 3) := by decide +kernel
theorem dX7_packed_365 : decode cX7_packed 365 = .ok (.iload_n 2, 1) := by decide +kernel
theorem dX7_packed_366 : decode cX7_packed 366 = .ok (.ireturn, 1) := by decide +kernel
theorem dX7_packs_0 : decode cX7_packs 0 = .ok (.iload_n 1, 1) := by decide +kernel
theorem dX7_packs_1 : decode cX7_packs 1 = .ok (.iconst (-1), 1) := by decide +kernel
theorem dX7_packs_2 : decode cX7_packs 2 = .ok (.if_icmp .eq 13, 3) := by decide +kernel
theorem dX7_packs_5 : decode cX7_packs 5 = .ok (.aload_n 0, 1) := by decide +kernel
theorem dX7_packs_6 : decode cX7_packs 6 = .ok (.iload_n 1, 1) := by decide +kernel
theorem dX7_packs_7 : decode cX7_packs 7 = .ok (.invokevirtual 133, 3) := by decide +kernel
theorem dX7_packs_10 : decode cX7_packs 10 = .ok (.ifCond .ne 5, 3) := by decide +kernel
theorem dX7_packs_13 : decode cX7_packs 13 = .ok (.iconst (-1), 1) := by decide +kernel
theorem dX7_packs_14 : decode cX7_packs 14 = .ok (.ireturn, 1) := by decide +kernel
theorem dX7_packs_15 : decode cX7_packs 15 = .ok (.aload_n 0, 1) := by decide +kernel
theorem dX7_packs_16 : decode cX7_packs 16 = .ok (.invokevirtual 162, 3) := by decide +kernel
theorem dX7_packs_19 : decode cX7_packs 19 = .ok (.istore_n 2, 1) := by decide +kernel
theorem dX7_packs_20 : decode cX7_packs 20 = .ok (.iload_n 1, 1) := by decide +kernel
theorem dX7_packs_21 : decode cX7_packs 21 = .ok (.iconst (-1), 1) := by decide +kernel
theorem dX7_packs_22 : decode cX7_packs 22 = .ok (.if_icmp .ne 7, 3) := by decide +kernel
theorem dX7_packs_25 : decode cX7_packs 25 = .ok (.iload_n 2, 1) := by decide +kernel
theorem dX7_packs_26 : decode cX7_packs 26 = .ok (.goto 24, 3) := by decide +kernel
theorem dX7_packs_29 : decode cX7_packs 29 = .ok (.aload_n 0, 1) := by decide +kernel
theorem dX7_packs_30 : decode cX7_packs 30 = .ok (.getfield 34, 3) := by decide +kernel
theorem dX7_packs_33 : decode cX7_packs 33 = .ok (.iload_n 1, 1) := by decide +kernel
theorem dX7_packs_34 : decode cX7_packs 34 = .ok (.iaload, 1) := by decide +kernel
theorem dX7_packs_35 : decode cX7_packs 35 = .ok (.iconst (-1), 1) := by decide +kernel
theorem dX7_packs_36 : decode cX7_packs 36 = .ok (.if_icmp .ne 8, 3) := by decide +kernel
theorem dX7_packs_39 : decode cX7_packs 39 = .ok (.bipush (-4), 2) := by decide +kernel
theorem dX7_packs_41 : decode cX7_packs 41 = .ok (.goto 9, 3) := by decide +kernel
theorem dX7_packs_44 : decode cX7_packs 44 = .ok (.aload_n 0, 1) := by decide +kernel
theorem dX7_packs_45 : decode cX7_packs 45 = .ok (.getfield 34, 3) := by decide +kernel
theorem dX7_packs_48 : decode cX7_packs 48 = .ok (.iload_n 1, 1) := by decide +kernel
theorem dX7_packs_49 : decode cX7_packs 49 = .ok (.iaload, 1) := by decide +kernel
theorem dX7_packs_50 : decode cX7_packs 50 = .ok (.ireturn, 1) := by decide +kernel
theorem dX7_lyingAll_0 : decode cX7_lyingAll 0 = .ok (.iconst 0, 1) := by decide +kernel
theorem dX7_lyingAll_1 : decode cX7_lyingAll 1 = .ok (.istore_n 1, 1) := by decide +kernel
theorem dX7_lyingAll_2 : decode cX7_lyingAll 2 = .ok (.iconst 0, 1) := by decide +kernel
theorem dX7_lyingAll_3 : decode cX7_lyingAll 3 = .ok (.istore_n 2, 1) := by decide +kernel
theorem dX7_lyingAll_4 : decode cX7_lyingAll 4 = .ok (.iload_n 2, 1) := by decide +kernel
theorem dX7_lyingAll_5 : decode cX7_lyingAll 5 = .ok (.aload_n 0, 1) := by decide +kernel
theorem dX7_lyingAll_6 : decode cX7_lyingAll 6 = .ok (.getfield 13, 3) := by decide +kernel
theorem dX7_lyingAll_9 : decode cX7_lyingAll 9 = .ok (.iconst 1, 1) := by decide +kernel
theorem dX7_lyingAll_10 : decode cX7_lyingAll 10 = .ok (.iaload, 1) := by decide +kernel
theorem dX7_lyingAll_11 : decode cX7_lyingAll 11 = .ok (.if_icmp .ge 32, 3) := by decide +kernel
theorem dX7_lyingAll_14 : decode cX7_lyingAll 14 = .ok (.iload_n 1, 1) := by decide +kernel
theorem dX7_lyingAll_15 : decode cX7_lyingAll 15 = .ok (.aload_n 0, 1) := by decide +kernel
theorem dX7_lyingAll_16 : decode cX7_lyingAll 16 = .ok (.getfield 19, 3) := by decide +kernel
theorem dX7_lyingAll_19 : decode cX7_lyingAll 19 = .ok (.bipush 7, 2) := by decide +kernel
theorem dX7_lyingAll_21 : decode cX7_lyingAll 21 = .ok (.iload_n 2, 1) := by decide +kernel
theorem dX7_lyingAll_22 : decode cX7_lyingAll 22 = .ok (.iadd, 1) := by decide +kernel
theorem dX7_lyingAll_23 : decode cX7_lyingAll 23 = .ok (.iaload, 1) := by decide +kernel
theorem dX7_lyingAll_24 : decode cX7_lyingAll 24 = .ok (.iconst (-1), 1) := by decide +kernel
theorem dX7_lyingAll_25 : decode cX7_lyingAll 25 = .ok (.if_icmp .ne 7, 3) := by decide +kernel
theorem dX7_lyingAll_28 : decode cX7_lyingAll 28 = .ok (.iconst 0, 1) := by decide +kernel
theorem dX7_lyingAll_29 : decode cX7_lyingAll 29 = .ok (.goto 6, 3) := by decide +kernel
theorem dX7_lyingAll_32 : decode cX7_lyingAll 32 = .ok (.iconst 1, 1) := by decide +kernel
theorem dX7_lyingAll_33 : decode cX7_lyingAll 33 = .ok (.iload_n 2, 1) := by decide +kernel
theorem dX7_lyingAll_34 : decode cX7_lyingAll 34 = .ok (.ishl, 1) := by decide +kernel
theorem dX7_lyingAll_35 : decode cX7_lyingAll 35 = .ok (.ior, 1) := by decide +kernel
theorem dX7_lyingAll_36 : decode cX7_lyingAll 36 = .ok (.istore_n 1, 1) := by decide +kernel
theorem dX7_lyingAll_37 : decode cX7_lyingAll 37 = .ok (.iinc 2 1, 3) := by decide +kernel
theorem dX7_lyingAll_40 : decode cX7_lyingAll 40 = .ok (.goto (-36), 3) := by decide +kernel
theorem dX7_lyingAll_43 : decode cX7_lyingAll 43 = .ok (.iload_n 1, 1) := by decide +kernel
theorem dX7_lyingAll_44 : decode cX7_lyingAll 44 = .ok (.ireturn, 1) := by decide +kernel
theorem dX7_stirs_0 : decode cX7_stirs 0 = .ok (.iconst 0, 1) := by decide +kernel
theorem dX7_stirs_1 : decode cX7_stirs 1 = .ok (.istore_n 2, 1) := by decide +kernel
theorem dX7_stirs_2 : decode cX7_stirs 2 = .ok (.iconst 0, 1) := by decide +kernel
theorem dX7_stirs_3 : decode cX7_stirs 3 = .ok (.istore_n 3, 1) := by decide +kernel
theorem dX7_stirs_4 : decode cX7_stirs 4 = .ok (.iload_n 3, 1) := by decide +kernel
theorem dX7_stirs_5 : decode cX7_stirs 5 = .ok (.aload_n 0, 1) := by decide +kernel
theorem dX7_stirs_6 : decode cX7_stirs 6 = .ok (.getfield 13, 3) := by decide +kernel
theorem dX7_stirs_9 : decode cX7_stirs 9 = .ok (.iconst 1, 1) := by decide +kernel
theorem dX7_stirs_10 : decode cX7_stirs 10 = .ok (.iaload, 1) := by decide +kernel
theorem dX7_stirs_11 : decode cX7_stirs 11 = .ok (.if_icmp .ge 29, 3) := by decide +kernel
theorem dX7_stirs_14 : decode cX7_stirs 14 = .ok (.iload_n 2, 1) := by decide +kernel
theorem dX7_stirs_15 : decode cX7_stirs 15 = .ok (.iload_n 1, 1) := by decide +kernel
theorem dX7_stirs_16 : decode cX7_stirs 16 = .ok (.iload_n 3, 1) := by decide +kernel
theorem dX7_stirs_17 : decode cX7_stirs 17 = .ok (.invokestatic 165, 3) := by decide +kernel
theorem dX7_stirs_20 : decode cX7_stirs 20 = .ok (.ifCond .eq 11, 3) := by decide +kernel
theorem dX7_stirs_23 : decode cX7_stirs 23 = .ok (.aload_n 0, 1) := by decide +kernel
theorem dX7_stirs_24 : decode cX7_stirs 24 = .ok (.iload_n 3, 1) := by decide +kernel
theorem dX7_stirs_25 : decode cX7_stirs 25 = .ok (.invokevirtual 156, 3) := by decide +kernel
theorem dX7_stirs_28 : decode cX7_stirs 28 = .ok (.goto 4, 3) := by decide +kernel
theorem dX7_stirs_31 : decode cX7_stirs 31 = .ok (.iconst 0, 1) := by decide +kernel
theorem dX7_stirs_32 : decode cX7_stirs 32 = .ok (.ior, 1) := by decide +kernel
theorem dX7_stirs_33 : decode cX7_stirs 33 = .ok (.istore_n 2, 1) := by decide +kernel
theorem dX7_stirs_34 : decode cX7_stirs 34 = .ok (.iinc 3 1, 3) := by decide +kernel
theorem dX7_stirs_37 : decode cX7_stirs 37 = .ok (.goto (-33), 3) := by decide +kernel
theorem dX7_stirs_40 : decode cX7_stirs 40 = .ok (.iload_n 2, 1) := by decide +kernel
theorem dX7_stirs_41 : decode cX7_stirs 41 = .ok (.iload_n 1, 1) := by decide +kernel
theorem dX7_stirs_42 : decode cX7_stirs 42 = .ok (.iconst (-1), 1) := by decide +kernel
theorem dX7_stirs_43 : decode cX7_stirs 43 = .ok (.ixor, 1) := by decide +kernel
theorem dX7_stirs_44 : decode cX7_stirs 44 = .ok (.iand, 1) := by decide +kernel
theorem dX7_stirs_45 : decode cX7_stirs 45 = .ok (.invokestatic 168, 3) := by decide +kernel
theorem dX7_stirs_48 : decode cX7_stirs 48 = .ok (.ireturn, 1) := by decide +kernel
theorem dX7_stir_0 : decode cX7_stir 0 = .ok (.iload_n 1, 1) := by decide +kernel
theorem dX7_stir_1 : decode cX7_stir 1 = .ok (.iconst 0, 1) := by decide +kernel
theorem dX7_stir_2 : decode cX7_stir 2 = .ok (.iconst 1, 1) := by decide +kernel
theorem dX7_stir_3 : decode cX7_stir 3 = .ok (.aload_n 0, 1) := by decide +kernel
theorem dX7_stir_4 : decode cX7_stir 4 = .ok (.getfield 13, 3) := by decide +kernel
theorem dX7_stir_7 : decode cX7_stir 7 = .ok (.iconst 1, 1) := by decide +kernel
theorem dX7_stir_8 : decode cX7_stir 8 = .ok (.iaload, 1) := by decide +kernel
theorem dX7_stir_9 : decode cX7_stir 9 = .ok (.ishl, 1) := by decide +kernel
theorem dX7_stir_10 : decode cX7_stir 10 = .ok (.iconst 1, 1) := by decide +kernel
theorem dX7_stir_11 : decode cX7_stir 11 = .ok (.isub, 1) := by decide +kernel
theorem dX7_stir_12 : decode cX7_stir 12 = .ok (.invokestatic 56, 3) := by decide +kernel
theorem dX7_stir_15 : decode cX7_stir 15 = .ok (.ifCond .ne 5, 3) := by decide +kernel
theorem dX7_stir_18 : decode cX7_stir 18 = .ok (.iconst (-1), 1) := by decide +kernel
theorem dX7_stir_19 : decode cX7_stir 19 = .ok (.ireturn, 1) := by decide +kernel
theorem dX7_stir_20 : decode cX7_stir 20 = .ok (.iload_n 1, 1) := by decide +kernel
theorem dX7_stir_21 : decode cX7_stir 21 = .ok (.aload_n 0, 1) := by decide +kernel
theorem dX7_stir_22 : decode cX7_stir 22 = .ok (.invokevirtual 171, 3) := by decide +kernel
theorem dX7_stir_25 : decode cX7_stir 25 = .ok (.iconst (-1), 1) := by decide +kernel
theorem dX7_stir_26 : decode cX7_stir 26 = .ok (.ixor, 1) := by decide +kernel
theorem dX7_stir_27 : decode cX7_stir 27 = .ok (.iand, 1) := by decide +kernel
theorem dX7_stir_28 : decode cX7_stir 28 = .ok (.ifCond .eq 8, 3) := by decide +kernel
theorem dX7_stir_31 : decode cX7_stir 31 = .ok (.bipush (-2), 2) := by decide +kernel
theorem dX7_stir_33 : decode cX7_stir 33 = .ok (.goto 8, 3) := by decide +kernel
theorem dX7_stir_36 : decode cX7_stir 36 = .ok (.aload_n 0, 1) := by decide +kernel
theorem dX7_stir_37 : decode cX7_stir 37 = .ok (.iload_n 1, 1) := by decide +kernel
theorem dX7_stir_38 : decode cX7_stir 38 = .ok (.invokevirtual 174, 3) := by decide +kernel
theorem dX7_stir_41 : decode cX7_stir 41 = .ok (.ireturn, 1) := by decide +kernel
theorem dX7_worthOf_0 : decode cX7_worthOf 0 = .ok (.iconst 0, 1) := by decide +kernel
theorem dX7_worthOf_1 : decode cX7_worthOf 1 = .ok (.istore_n 2, 1) := by decide +kernel
theorem dX7_worthOf_2 : decode cX7_worthOf 2 = .ok (.iconst 0, 1) := by decide +kernel
theorem dX7_worthOf_3 : decode cX7_worthOf 3 = .ok (.istore_n 3, 1) := by decide +kernel
theorem dX7_worthOf_4 : decode cX7_worthOf 4 = .ok (.iload_n 3, 1) := by decide +kernel
theorem dX7_worthOf_5 : decode cX7_worthOf 5 = .ok (.aload_n 0, 1) := by decide +kernel
theorem dX7_worthOf_6 : decode cX7_worthOf 6 = .ok (.getfield 13, 3) := by decide +kernel
theorem dX7_worthOf_9 : decode cX7_worthOf 9 = .ok (.iconst 1, 1) := by decide +kernel
theorem dX7_worthOf_10 : decode cX7_worthOf 10 = .ok (.iaload, 1) := by decide +kernel
theorem dX7_worthOf_11 : decode cX7_worthOf 11 = .ok (.if_icmp .ge 33, 3) := by decide +kernel
theorem dX7_worthOf_14 : decode cX7_worthOf 14 = .ok (.iload_n 2, 1) := by decide +kernel
theorem dX7_worthOf_15 : decode cX7_worthOf 15 = .ok (.iload_n 1, 1) := by decide +kernel
theorem dX7_worthOf_16 : decode cX7_worthOf 16 = .ok (.iload_n 3, 1) := by decide +kernel
theorem dX7_worthOf_17 : decode cX7_worthOf 17 = .ok (.invokestatic 165, 3) := by decide +kernel
theorem dX7_worthOf_20 : decode cX7_worthOf 20 = .ok (.ifCond .eq 15, 3) := by decide +kernel
theorem dX7_worthOf_23 : decode cX7_worthOf 23 = .ok (.aload_n 0, 1) := by decide +kernel
theorem dX7_worthOf_24 : decode cX7_worthOf 24 = .ok (.getfield 13, 3) := by decide +kernel
theorem dX7_worthOf_27 : decode cX7_worthOf 27 = .ok (.bipush 9, 2) := by decide +kernel
theorem dX7_worthOf_29 : decode cX7_worthOf 29 = .ok (.iload_n 3, 1) := by decide +kernel
theorem dX7_worthOf_30 : decode cX7_worthOf 30 = .ok (.iadd, 1) := by decide +kernel
theorem dX7_worthOf_31 : decode cX7_worthOf 31 = .ok (.iaload, 1) := by decide +kernel
theorem dX7_worthOf_32 : decode cX7_worthOf 32 = .ok (.goto 4, 3) := by decide +kernel
theorem dX7_worthOf_35 : decode cX7_worthOf 35 = .ok (.iconst 0, 1) := by decide +kernel
theorem dX7_worthOf_36 : decode cX7_worthOf 36 = .ok (.iadd, 1) := by decide +kernel
theorem dX7_worthOf_37 : decode cX7_worthOf 37 = .ok (.istore_n 2, 1) := by decide +kernel
theorem dX7_worthOf_38 : decode cX7_worthOf 38 = .ok (.iinc 3 1, 3) := by decide +kernel
theorem dX7_worthOf_41 : decode cX7_worthOf 41 = .ok (.goto (-37), 3) := by decide +kernel
theorem dX7_worthOf_44 : decode cX7_worthOf 44 = .ok (.iload_n 2, 1) := by decide +kernel
theorem dX7_worthOf_45 : decode cX7_worthOf 45 = .ok (.ireturn, 1) := by decide +kernel
theorem dX7_cheap_0 : decode cX7_cheap 0 = .ok (.iload_n 1, 1) := by decide +kernel
theorem dX7_cheap_1 : decode cX7_cheap 1 = .ok (.iconst 1, 1) := by decide +kernel
theorem dX7_cheap_2 : decode cX7_cheap 2 = .ok (.sipush 140, 3) := by decide +kernel
theorem dX7_cheap_5 : decode cX7_cheap 5 = .ok (.invokestatic 56, 3) := by decide +kernel
theorem dX7_cheap_8 : decode cX7_cheap 8 = .ok (.ifCond .eq 12, 3) := by decide +kernel
theorem dX7_cheap_11 : decode cX7_cheap 11 = .ok (.iload_n 2, 1) := by decide +kernel
theorem dX7_cheap_12 : decode cX7_cheap 12 = .ok (.iconst 0, 1) := by decide +kernel
theorem dX7_cheap_13 : decode cX7_cheap 13 = .ok (.iconst 1, 1) := by decide +kernel
theorem dX7_cheap_14 : decode cX7_cheap 14 = .ok (.invokestatic 56, 3) := by decide +kernel
theorem dX7_cheap_17 : decode cX7_cheap 17 = .ok (.ifCond .ne 5, 3) := by decide +kernel
theorem dX7_cheap_20 : decode cX7_cheap 20 = .ok (.iconst (-1), 1) := by decide +kernel
theorem dX7_cheap_21 : decode cX7_cheap 21 = .ok (.ireturn, 1) := by decide +kernel
theorem dX7_cheap_22 : decode cX7_cheap 22 = .ok (.bipush (-4), 2) := by decide +kernel
theorem dX7_cheap_24 : decode cX7_cheap 24 = .ok (.istore_n 3, 1) := by decide +kernel
theorem dX7_cheap_25 : decode cX7_cheap 25 = .ok (.bipush 99, 2) := by decide +kernel
theorem dX7_cheap_27 : decode cX7_cheap 27 = .ok (.istore 4, 2) := by decide +kernel
theorem dX7_cheap_29 : decode cX7_cheap 29 = .ok (.iconst 1, 1) := by decide +kernel
theorem dX7_cheap_30 : decode cX7_cheap 30 = .ok (.istore 5, 2) := by decide +kernel
theorem dX7_cheap_32 : decode cX7_cheap 32 = .ok (.iload 5, 2) := by decide +kernel
theorem dX7_cheap_34 : decode cX7_cheap 34 = .ok (.iconst 1, 1) := by decide +kernel
theorem dX7_cheap_35 : decode cX7_cheap 35 = .ok (.aload_n 0, 1) := by decide +kernel
theorem dX7_cheap_36 : decode cX7_cheap 36 = .ok (.getfield 13, 3) := by decide +kernel
theorem dX7_cheap_39 : decode cX7_cheap 39 = .ok (.iconst 1, 1) := by decide +kernel
theorem dX7_cheap_40 : decode cX7_cheap 40 = .ok (.iaload, 1) := by decide +kernel
theorem dX7_cheap_41 : decode cX7_cheap 41 = .ok (.ishl, 1) := by decide +kernel
theorem dX7_cheap_42 : decode cX7_cheap 42 = .ok (.if_icmp .ge 78, 3) := by decide +kernel
theorem dX7_cheap_45 : decode cX7_cheap 45 = .ok (.iload 5, 2) := by decide +kernel
theorem dX7_cheap_47 : decode cX7_cheap 47 = .ok (.aload_n 0, 1) := by decide +kernel
theorem dX7_cheap_48 : decode cX7_cheap 48 = .ok (.invokevirtual 171, 3) := by decide +kernel
theorem dX7_cheap_51 : decode cX7_cheap 51 = .ok (.iconst (-1), 1) := by decide +kernel
theorem dX7_cheap_52 : decode cX7_cheap 52 = .ok (.ixor, 1) := by decide +kernel
theorem dX7_cheap_53 : decode cX7_cheap 53 = .ok (.iand, 1) := by decide +kernel
theorem dX7_cheap_54 : decode cX7_cheap 54 = .ok (.ifCond .ne 60, 3) := by decide +kernel
theorem dX7_cheap_57 : decode cX7_cheap 57 = .ok (.aload_n 0, 1) := by decide +kernel
theorem dX7_cheap_58 : decode cX7_cheap 58 = .ok (.iload 5, 2) := by decide +kernel
theorem dX7_cheap_60 : decode cX7_cheap 60 = .ok (.invokevirtual 177, 3) := by decide +kernel
theorem dX7_cheap_63 : decode cX7_cheap 63 = .ok (.iload_n 1, 1) := by decide +kernel
theorem dX7_cheap_64 : decode cX7_cheap 64 = .ok (.if_icmp .lt 50, 3) := by decide +kernel
theorem dX7_cheap_67 : decode cX7_cheap 67 = .ok (.bipush 8, 2) := by decide +kernel
theorem dX7_cheap_69 : decode cX7_cheap 69 = .ok (.aload_n 0, 1) := by decide +kernel
theorem dX7_cheap_70 : decode cX7_cheap 70 = .ok (.iload 5, 2) := by decide +kernel
theorem dX7_cheap_72 : decode cX7_cheap 72 = .ok (.invokevirtual 174, 3) := by decide +kernel
theorem dX7_cheap_75 : decode cX7_cheap 75 = .ok (.imul, 1) := by decide +kernel
theorem dX7_cheap_76 : decode cX7_cheap 76 = .ok (.iload 5, 2) := by decide +kernel
theorem dX7_cheap_78 : decode cX7_cheap 78 = .ok (.invokestatic 168, 3) := by decide +kernel
theorem dX7_cheap_81 : decode cX7_cheap 81 = .ok (.iadd, 1) := by decide +kernel
theorem dX7_cheap_82 : decode cX7_cheap 82 = .ok (.istore 6, 2) := by decide +kernel
theorem dX7_cheap_84 : decode cX7_cheap 84 = .ok (.iload 6, 2) := by decide +kernel
theorem dX7_cheap_86 : decode cX7_cheap 86 = .ok (.iload 4, 2) := by decide +kernel
theorem dX7_cheap_88 : decode cX7_cheap 88 = .ok (.if_icmp .ge 8, 3) := by decide +kernel
theorem dX7_cheap_91 : decode cX7_cheap 91 = .ok (.iload 5, 2) := by decide +kernel
theorem dX7_cheap_93 : decode cX7_cheap 93 = .ok (.goto 4, 3) := by decide +kernel
theorem dX7_cheap_96 : decode cX7_cheap 96 = .ok (.iload_n 3, 1) := by decide +kernel
theorem dX7_cheap_97 : decode cX7_cheap 97 = .ok (.istore_n 3, 1) := by decide +kernel
theorem dX7_cheap_98 : decode cX7_cheap 98 = .ok (.iload 6, 2) := by decide +kernel
theorem dX7_cheap_100 : decode cX7_cheap 100 = .ok (.iload 4, 2) := by decide +kernel
theorem dX7_cheap_102 : decode cX7_cheap 102 = .ok (.if_icmp .ge 8, 3) := by decide +kernel
theorem dX7_cheap_105 : decode cX7_cheap 105 = .ok (.iload 6, 2) := by decide +kernel
theorem dX7_cheap_107 : decode cX7_cheap 107 = .ok (.goto 5, 3) := by decide +kernel
theorem dX7_cheap_110 : decode cX7_cheap 110 = .ok (.iload 4, 2) := by decide +kernel
theorem dX7_cheap_112 : decode cX7_cheap 112 = .ok (.istore 4, 2) := by decide +kernel
theorem dX7_cheap_114 : decode cX7_cheap 114 = .ok (.iinc 5 1, 3) := by decide +kernel
theorem dX7_cheap_117 : decode cX7_cheap 117 = .ok (.goto (-85), 3) := by decide +kernel
theorem dX7_cheap_120 : decode cX7_cheap 120 = .ok (.iload_n 3, 1) := by decide +kernel
theorem dX7_cheap_121 : decode cX7_cheap 121 = .ok (.bipush (-4), 2) := by decide +kernel
theorem dX7_cheap_123 : decode cX7_cheap 123 = .ok (.if_icmp .eq 7, 3) := by decide +kernel
theorem dX7_cheap_126 : decode cX7_cheap 126 = .ok (.iload_n 2, 1) := by decide +kernel
theorem dX7_cheap_127 : decode cX7_cheap 127 = .ok (.ifCond .ne 7, 3) := by decide +kernel
theorem dX7_cheap_130 : decode cX7_cheap 130 = .ok (.iload_n 3, 1) := by decide +kernel
theorem dX7_cheap_131 : decode cX7_cheap 131 = .ok (.goto 8, 3) := by decide +kernel
theorem dX7_cheap_134 : decode cX7_cheap 134 = .ok (.iload 4, 2) := by decide +kernel
theorem dX7_cheap_136 : decode cX7_cheap 136 = .ok (.bipush 8, 2) := by decide +kernel
theorem dX7_cheap_138 : decode cX7_cheap 138 = .ok (.idiv, 1) := by decide +kernel
theorem dX7_cheap_139 : decode cX7_cheap 139 = .ok (.ireturn, 1) := by decide +kernel
theorem dX7_deeper_0 : decode cX7_deeper 0 = .ok (.iload_n 1, 1) := by decide +kernel
theorem dX7_deeper_1 : decode cX7_deeper 1 = .ok (.iconst 0, 1) := by decide +kernel
theorem dX7_deeper_2 : decode cX7_deeper 2 = .ok (.iconst 1, 1) := by decide +kernel
theorem dX7_deeper_3 : decode cX7_deeper 3 = .ok (.invokestatic 56, 3) := by decide +kernel
theorem dX7_deeper_6 : decode cX7_deeper 6 = .ok (.ifCond .ne 5, 3) := by decide +kernel
theorem dX7_deeper_9 : decode cX7_deeper 9 = .ok (.iconst (-1), 1) := by decide +kernel
theorem dX7_deeper_10 : decode cX7_deeper 10 = .ok (.ireturn, 1) := by decide +kernel
theorem dX7_deeper_11 : decode cX7_deeper 11 = .ok (.bipush (-4), 2) := by decide +kernel
theorem dX7_deeper_13 : decode cX7_deeper 13 = .ok (.istore_n 2, 1) := by decide +kernel
theorem dX7_deeper_14 : decode cX7_deeper 14 = .ok (.bipush (-4), 2) := by decide +kernel
theorem dX7_deeper_16 : decode cX7_deeper 16 = .ok (.istore_n 3, 1) := by decide +kernel
theorem dX7_deeper_17 : decode cX7_deeper 17 = .ok (.iconst 0, 1) := by decide +kernel
theorem dX7_deeper_18 : decode cX7_deeper 18 = .ok (.istore 4, 2) := by decide +kernel
theorem dX7_deeper_20 : decode cX7_deeper 20 = .ok (.iload 4, 2) := by decide +kernel
theorem dX7_deeper_22 : decode cX7_deeper 22 = .ok (.aload_n 0, 1) := by decide +kernel
theorem dX7_deeper_23 : decode cX7_deeper 23 = .ok (.getfield 13, 3) := by decide +kernel
theorem dX7_deeper_26 : decode cX7_deeper 26 = .ok (.iconst 0, 1) := by decide +kernel
theorem dX7_deeper_27 : decode cX7_deeper 27 = .ok (.iaload, 1) := by decide +kernel
theorem dX7_deeper_28 : decode cX7_deeper 28 = .ok (.if_icmp .ge 81, 3) := by decide +kernel
theorem dX7_deeper_31 : decode cX7_deeper 31 = .ok (.aload_n 0, 1) := by decide +kernel
theorem dX7_deeper_32 : decode cX7_deeper 32 = .ok (.getfield 19, 3) := by decide +kernel
theorem dX7_deeper_35 : decode cX7_deeper 35 = .ok (.iconst 2, 1) := by decide +kernel
theorem dX7_deeper_36 : decode cX7_deeper 36 = .ok (.iload 4, 2) := by decide +kernel
theorem dX7_deeper_38 : decode cX7_deeper 38 = .ok (.iadd, 1) := by decide +kernel
theorem dX7_deeper_39 : decode cX7_deeper 39 = .ok (.iaload, 1) := by decide +kernel
theorem dX7_deeper_40 : decode cX7_deeper 40 = .ok (.bipush 9, 2) := by decide +kernel
theorem dX7_deeper_42 : decode cX7_deeper 42 = .ok (.if_icmp .ge 61, 3) := by decide +kernel
theorem dX7_deeper_45 : decode cX7_deeper 45 = .ok (.aload_n 0, 1) := by decide +kernel
theorem dX7_deeper_46 : decode cX7_deeper 46 = .ok (.getfield 19, 3) := by decide +kernel
theorem dX7_deeper_49 : decode cX7_deeper 49 = .ok (.iconst 2, 1) := by decide +kernel
theorem dX7_deeper_50 : decode cX7_deeper 50 = .ok (.iload 4, 2) := by decide +kernel
theorem dX7_deeper_52 : decode cX7_deeper 52 = .ok (.iadd, 1) := by decide +kernel
theorem dX7_deeper_53 : decode cX7_deeper 53 = .ok (.dup2, 1) := by decide +kernel
theorem dX7_deeper_54 : decode cX7_deeper 54 = .ok (.iaload, 1) := by decide +kernel
theorem dX7_deeper_55 : decode cX7_deeper 55 = .ok (.iconst 1, 1) := by decide +kernel
theorem dX7_deeper_56 : decode cX7_deeper 56 = .ok (.iadd, 1) := by decide +kernel
theorem dX7_deeper_57 : decode cX7_deeper 57 = .ok (.iastore, 1) := by decide +kernel
theorem dX7_deeper_58 : decode cX7_deeper 58 = .ok (.aload_n 0, 1) := by decide +kernel
theorem dX7_deeper_59 : decode cX7_deeper 59 = .ok (.invokevirtual 162, 3) := by decide +kernel
theorem dX7_deeper_62 : decode cX7_deeper 62 = .ok (.istore 5, 2) := by decide +kernel
theorem dX7_deeper_64 : decode cX7_deeper 64 = .ok (.aload_n 0, 1) := by decide +kernel
theorem dX7_deeper_65 : decode cX7_deeper 65 = .ok (.getfield 19, 3) := by decide +kernel
theorem dX7_deeper_68 : decode cX7_deeper 68 = .ok (.iconst 2, 1) := by decide +kernel
theorem dX7_deeper_69 : decode cX7_deeper 69 = .ok (.iload 4, 2) := by decide +kernel
theorem dX7_deeper_71 : decode cX7_deeper 71 = .ok (.iadd, 1) := by decide +kernel
theorem dX7_deeper_72 : decode cX7_deeper 72 = .ok (.dup2, 1) := by decide +kernel
theorem dX7_deeper_73 : decode cX7_deeper 73 = .ok (.iaload, 1) := by decide +kernel
theorem dX7_deeper_74 : decode cX7_deeper 74 = .ok (.iconst 1, 1) := by decide +kernel
theorem dX7_deeper_75 : decode cX7_deeper 75 = .ok (.isub, 1) := by decide +kernel
theorem dX7_deeper_76 : decode cX7_deeper 76 = .ok (.iastore, 1) := by decide +kernel
theorem dX7_deeper_77 : decode cX7_deeper 77 = .ok (.iload 5, 2) := by decide +kernel
theorem dX7_deeper_79 : decode cX7_deeper 79 = .ok (.iload_n 3, 1) := by decide +kernel
theorem dX7_deeper_80 : decode cX7_deeper 80 = .ok (.if_icmp .le 8, 3) := by decide +kernel
theorem dX7_deeper_83 : decode cX7_deeper 83 = .ok (.iload 4, 2) := by decide +kernel
theorem dX7_deeper_85 : decode cX7_deeper 85 = .ok (.goto 4, 3) := by decide +kernel
theorem dX7_deeper_88 : decode cX7_deeper 88 = .ok (.iload_n 2, 1) := by decide +kernel
theorem dX7_deeper_89 : decode cX7_deeper 89 = .ok (.istore_n 2, 1) := by decide +kernel
theorem dX7_deeper_90 : decode cX7_deeper 90 = .ok (.iload 5, 2) := by decide +kernel
theorem dX7_deeper_92 : decode cX7_deeper 92 = .ok (.iload_n 3, 1) := by decide +kernel
theorem dX7_deeper_93 : decode cX7_deeper 93 = .ok (.if_icmp .le 8, 3) := by decide +kernel
theorem dX7_deeper_96 : decode cX7_deeper 96 = .ok (.iload 5, 2) := by decide +kernel
theorem dX7_deeper_98 : decode cX7_deeper 98 = .ok (.goto 4, 3) := by decide +kernel
theorem dX7_deeper_101 : decode cX7_deeper 101 = .ok (.iload_n 3, 1) := by decide +kernel
theorem dX7_deeper_102 : decode cX7_deeper 102 = .ok (.istore_n 3, 1) := by decide +kernel
theorem dX7_deeper_103 : decode cX7_deeper 103 = .ok (.iinc 4 1, 3) := by decide +kernel
theorem dX7_deeper_106 : decode cX7_deeper 106 = .ok (.goto (-86), 3) := by decide +kernel
theorem dX7_deeper_109 : decode cX7_deeper 109 = .ok (.iload_n 1, 1) := by decide +kernel
theorem dX7_deeper_110 : decode cX7_deeper 110 = .ok (.ifCond .ne 7, 3) := by decide +kernel
theorem dX7_deeper_113 : decode cX7_deeper 113 = .ok (.iload_n 2, 1) := by decide +kernel
theorem dX7_deeper_114 : decode cX7_deeper 114 = .ok (.goto 4, 3) := by decide +kernel
theorem dX7_deeper_117 : decode cX7_deeper 117 = .ok (.iload_n 3, 1) := by decide +kernel
theorem dX7_deeper_118 : decode cX7_deeper 118 = .ok (.ireturn, 1) := by decide +kernel
theorem dX7_years_0 : decode cX7_years 0 = .ok (.iload_n 1, 1) := by decide +kernel
theorem dX7_years_1 : decode cX7_years 1 = .ok (.iconst 1, 1) := by decide +kernel
theorem dX7_years_2 : decode cX7_years 2 = .ok (.bipush 20, 2) := by decide +kernel
theorem dX7_years_4 : decode cX7_years 4 = .ok (.invokestatic 56, 3) := by decide +kernel
theorem dX7_years_7 : decode cX7_years 7 = .ok (.ifCond .ne 5, 3) := by decide +kernel
theorem dX7_years_10 : decode cX7_years 10 = .ok (.iconst (-1), 1) := by decide +kernel
theorem dX7_years_11 : decode cX7_years 11 = .ok (.ireturn, 1) := by decide +kernel
theorem dX7_years_12 : decode cX7_years 12 = .ok (.aload_n 0, 1) := by decide +kernel
theorem dX7_years_13 : decode cX7_years 13 = .ok (.invokevirtual 153, 3) := by decide +kernel
theorem dX7_years_16 : decode cX7_years 16 = .ok (.iconst 0, 1) := by decide +kernel
theorem dX7_years_17 : decode cX7_years 17 = .ok (.istore_n 2, 1) := by decide +kernel
theorem dX7_years_18 : decode cX7_years 18 = .ok (.iconst 0, 1) := by decide +kernel
theorem dX7_years_19 : decode cX7_years 19 = .ok (.istore_n 3, 1) := by decide +kernel
theorem dX7_years_20 : decode cX7_years 20 = .ok (.iload_n 3, 1) := by decide +kernel
theorem dX7_years_21 : decode cX7_years 21 = .ok (.iload_n 1, 1) := by decide +kernel
theorem dX7_years_22 : decode cX7_years 22 = .ok (.if_icmp .ge 25, 3) := by decide +kernel
theorem dX7_years_25 : decode cX7_years 25 = .ok (.iload_n 2, 1) := by decide +kernel
theorem dX7_years_26 : decode cX7_years 26 = .ok (.aload_n 0, 1) := by decide +kernel
theorem dX7_years_27 : decode cX7_years 27 = .ok (.iconst 1, 1) := by decide +kernel
theorem dX7_years_28 : decode cX7_years 28 = .ok (.invokevirtual 142, 3) := by decide +kernel
theorem dX7_years_31 : decode cX7_years 31 = .ok (.ifCond .eq 7, 3) := by decide +kernel
theorem dX7_years_34 : decode cX7_years 34 = .ok (.iconst 1, 1) := by decide +kernel
theorem dX7_years_35 : decode cX7_years 35 = .ok (.goto 4, 3) := by decide +kernel
theorem dX7_years_38 : decode cX7_years 38 = .ok (.iconst 0, 1) := by decide +kernel
theorem dX7_years_39 : decode cX7_years 39 = .ok (.iadd, 1) := by decide +kernel
theorem dX7_years_40 : decode cX7_years 40 = .ok (.istore_n 2, 1) := by decide +kernel
theorem dX7_years_41 : decode cX7_years 41 = .ok (.iinc 3 1, 3) := by decide +kernel
theorem dX7_years_44 : decode cX7_years 44 = .ok (.goto (-24), 3) := by decide +kernel
theorem dX7_years_47 : decode cX7_years 47 = .ok (.aload_n 0, 1) := by decide +kernel
theorem dX7_years_48 : decode cX7_years 48 = .ok (.invokevirtual 118, 3) := by decide +kernel
theorem dX7_years_51 : decode cX7_years 51 = .ok (.iload_n 2, 1) := by decide +kernel
theorem dX7_years_52 : decode cX7_years 52 = .ok (.ireturn, 1) := by decide +kernel
theorem dX7_seen_0 : decode cX7_seen 0 = .ok (.iload_n 1, 1) := by decide +kernel
theorem dX7_seen_1 : decode cX7_seen 1 = .ok (.iconst 0, 1) := by decide +kernel
theorem dX7_seen_2 : decode cX7_seen 2 = .ok (.bipush 20, 2) := by decide +kernel
theorem dX7_seen_4 : decode cX7_seen 4 = .ok (.invokestatic 56, 3) := by decide +kernel
theorem dX7_seen_7 : decode cX7_seen 7 = .ok (.ifCond .eq 20, 3) := by decide +kernel
theorem dX7_seen_10 : decode cX7_seen 10 = .ok (.aload_n 0, 1) := by decide +kernel
theorem dX7_seen_11 : decode cX7_seen 11 = .ok (.iload_n 2, 1) := by decide +kernel
theorem dX7_seen_12 : decode cX7_seen 12 = .ok (.invokevirtual 133, 3) := by decide +kernel
theorem dX7_seen_15 : decode cX7_seen 15 = .ok (.ifCond .eq 12, 3) := by decide +kernel
theorem dX7_seen_18 : decode cX7_seen 18 = .ok (.iload_n 3, 1) := by decide +kernel
theorem dX7_seen_19 : decode cX7_seen 19 = .ok (.iconst 0, 1) := by decide +kernel
theorem dX7_seen_20 : decode cX7_seen 20 = .ok (.iconst 1, 1) := by decide +kernel
theorem dX7_seen_21 : decode cX7_seen 21 = .ok (.invokestatic 56, 3) := by decide +kernel
theorem dX7_seen_24 : decode cX7_seen 24 = .ok (.ifCond .ne 5, 3) := by decide +kernel
theorem dX7_seen_27 : decode cX7_seen 27 = .ok (.iconst (-1), 1) := by decide +kernel
theorem dX7_seen_28 : decode cX7_seen 28 = .ok (.ireturn, 1) := by decide +kernel
theorem dX7_seen_29 : decode cX7_seen 29 = .ok (.aload_n 0, 1) := by decide +kernel
theorem dX7_seen_30 : decode cX7_seen 30 = .ok (.getfield 127, 3) := by decide +kernel
theorem dX7_seen_33 : decode cX7_seen 33 = .ok (.bipush 6, 2) := by decide +kernel
theorem dX7_seen_35 : decode cX7_seen 35 = .ok (.if_icmp .ne 6, 3) := by decide +kernel
theorem dX7_seen_38 : decode cX7_seen 38 = .ok (.bipush (-3), 2) := by decide +kernel
theorem dX7_seen_40 : decode cX7_seen 40 = .ok (.ireturn, 1) := by decide +kernel
theorem dX7_seen_41 : decode cX7_seen 41 = .ok (.aload_n 0, 1) := by decide +kernel
theorem dX7_seen_42 : decode cX7_seen 42 = .ok (.getfield 28, 3) := by decide +kernel
theorem dX7_seen_45 : decode cX7_seen 45 = .ok (.iconst 3, 1) := by decide +kernel
theorem dX7_seen_46 : decode cX7_seen 46 = .ok (.aload_n 0, 1) := by decide +kernel
theorem dX7_seen_47 : decode cX7_seen 47 = .ok (.getfield 127, 3) := by decide +kernel
theorem dX7_seen_50 : decode cX7_seen 50 = .ok (.imul, 1) := by decide +kernel
theorem dX7_seen_51 : decode cX7_seen 51 = .ok (.iload_n 1, 1) := by decide +kernel
theorem dX7_seen_52 : decode cX7_seen 52 = .ok (.iastore, 1) := by decide +kernel
theorem dX7_seen_53 : decode cX7_seen 53 = .ok (.aload_n 0, 1) := by decide +kernel
theorem dX7_seen_54 : decode cX7_seen 54 = .ok (.getfield 28, 3) := by decide +kernel
theorem dX7_seen_57 : decode cX7_seen 57 = .ok (.iconst 3, 1) := by decide +kernel
theorem dX7_seen_58 : decode cX7_seen 58 = .ok (.aload_n 0, 1) := by decide +kernel
theorem dX7_seen_59 : decode cX7_seen 59 = .ok (.getfield 127, 3) := by decide +kernel
theorem dX7_seen_62 : decode cX7_seen 62 = .ok (.imul, 1) := by decide +kernel
theorem dX7_seen_63 : decode cX7_seen 63 = .ok (.iconst 1, 1) := by decide +kernel
theorem dX7_seen_64 : decode cX7_seen 64 = .ok (.iadd, 1) := by decide +kernel
theorem dX7_seen_65 : decode cX7_seen 65 = .ok (.iload_n 2, 1) := by decide +kernel
theorem dX7_seen_66 : decode cX7_seen 66 = .ok (.iastore, 1) := by decide +kernel
theorem dX7_seen_67 : decode cX7_seen 67 = .ok (.aload_n 0, 1) := by decide +kernel
theorem dX7_seen_68 : decode cX7_seen 68 = .ok (.getfield 28, 3) := by decide +kernel
theorem dX7_seen_71 : decode cX7_seen 71 = .ok (.iconst 3, 1) := by decide +kernel
theorem dX7_seen_72 : decode cX7_seen 72 = .ok (.aload_n 0, 1) := by decide +kernel
theorem dX7_seen_73 : decode cX7_seen 73 = .ok (.getfield 127, 3) := by decide +kernel
theorem dX7_seen_76 : decode cX7_seen 76 = .ok (.imul, 1) := by decide +kernel
theorem dX7_seen_77 : decode cX7_seen 77 = .ok (.iconst 2, 1) := by decide +kernel
theorem dX7_seen_78 : decode cX7_seen 78 = .ok (.iadd, 1) := by decide +kernel
theorem dX7_seen_79 : decode cX7_seen 79 = .ok (.iload_n 3, 1) := by decide +kernel
theorem dX7_seen_80 : decode cX7_seen 80 = .ok (.iastore, 1) := by decide +kernel
theorem dX7_seen_81 : decode cX7_seen 81 = .ok (.aload_n 0, 1) := by decide +kernel
theorem dX7_seen_82 : decode cX7_seen 82 = .ok (.dup, 1) := by decide +kernel
theorem dX7_seen_83 : decode cX7_seen 83 = .ok (.getfield 127, 3) := by decide +kernel
theorem dX7_seen_86 : decode cX7_seen 86 = .ok (.iconst 1, 1) := by decide +kernel
theorem dX7_seen_87 : decode cX7_seen 87 = .ok (.iadd, 1) := by decide +kernel
theorem dX7_seen_88 : decode cX7_seen 88 = .ok (.putfield 127, 3) := by decide +kernel
theorem dX7_seen_91 : decode cX7_seen 91 = .ok (.aload_n 0, 1) := by decide +kernel
theorem dX7_seen_92 : decode cX7_seen 92 = .ok (.getfield 127, 3) := by decide +kernel
theorem dX7_seen_95 : decode cX7_seen 95 = .ok (.ireturn, 1) := by decide +kernel
theorem dX7_forget_0 : decode cX7_forget 0 = .ok (.aload_n 0, 1) := by decide +kernel
theorem dX7_forget_1 : decode cX7_forget 1 = .ok (.getfield 127, 3) := by decide +kernel
theorem dX7_forget_4 : decode cX7_forget 4 = .ok (.istore_n 1, 1) := by decide +kernel
theorem dX7_forget_5 : decode cX7_forget 5 = .ok (.aload_n 0, 1) := by decide +kernel
theorem dX7_forget_6 : decode cX7_forget 6 = .ok (.iconst 0, 1) := by decide +kernel
theorem dX7_forget_7 : decode cX7_forget 7 = .ok (.putfield 127, 3) := by decide +kernel
theorem dX7_forget_10 : decode cX7_forget 10 = .ok (.iload_n 1, 1) := by decide +kernel
theorem dX7_forget_11 : decode cX7_forget 11 = .ok (.ireturn, 1) := by decide +kernel
theorem dX7_isSo_0 : decode cX7_isSo 0 = .ok (.iconst 0, 1) := by decide +kernel
theorem dX7_isSo_1 : decode cX7_isSo 1 = .ok (.istore_n 1, 1) := by decide +kernel
theorem dX7_isSo_2 : decode cX7_isSo 2 = .ok (.iload_n 1, 1) := by decide +kernel
theorem dX7_isSo_3 : decode cX7_isSo 3 = .ok (.bipush 21, 2) := by decide +kernel
theorem dX7_isSo_5 : decode cX7_isSo 5 = .ok (.if_icmp .ge 21, 3) := by decide +kernel
theorem dX7_isSo_8 : decode cX7_isSo 8 = .ok (.aload_n 0, 1) := by decide +kernel
theorem dX7_isSo_9 : decode cX7_isSo 9 = .ok (.getfield 46, 3) := by decide +kernel
theorem dX7_isSo_12 : decode cX7_isSo 12 = .ok (.iload_n 1, 1) := by decide +kernel
theorem dX7_isSo_13 : decode cX7_isSo 13 = .ok (.aload_n 0, 1) := by decide +kernel
theorem dX7_isSo_14 : decode cX7_isSo 14 = .ok (.getfield 19, 3) := by decide +kernel
theorem dX7_isSo_17 : decode cX7_isSo 17 = .ok (.iload_n 1, 1) := by decide +kernel
theorem dX7_isSo_18 : decode cX7_isSo 18 = .ok (.iaload, 1) := by decide +kernel
theorem dX7_isSo_19 : decode cX7_isSo 19 = .ok (.iastore, 1) := by decide +kernel
theorem dX7_isSo_20 : decode cX7_isSo 20 = .ok (.iinc 1 1, 3) := by decide +kernel
theorem dX7_isSo_23 : decode cX7_isSo 23 = .ok (.goto (-21), 3) := by decide +kernel
theorem dX7_isSo_26 : decode cX7_isSo 26 = .ok (.iconst 1, 1) := by decide +kernel
theorem dX7_isSo_27 : decode cX7_isSo 27 = .ok (.istore_n 1, 1) := by decide +kernel
theorem dX7_isSo_28 : decode cX7_isSo 28 = .ok (.iconst 0, 1) := by decide +kernel
theorem dX7_isSo_29 : decode cX7_isSo 29 = .ok (.istore_n 2, 1) := by decide +kernel
theorem dX7_isSo_30 : decode cX7_isSo 30 = .ok (.iload_n 2, 1) := by decide +kernel
theorem dX7_isSo_31 : decode cX7_isSo 31 = .ok (.aload_n 0, 1) := by decide +kernel
theorem dX7_isSo_32 : decode cX7_isSo 32 = .ok (.getfield 127, 3) := by decide +kernel
theorem dX7_isSo_35 : decode cX7_isSo 35 = .ok (.if_icmp .ge 120, 3) := by decide +kernel
theorem dX7_isSo_38 : decode cX7_isSo 38 = .ok (.iconst 0, 1) := by decide +kernel
theorem dX7_isSo_39 : decode cX7_isSo 39 = .ok (.istore_n 3, 1) := by decide +kernel
theorem dX7_isSo_40 : decode cX7_isSo 40 = .ok (.iload_n 3, 1) := by decide +kernel
theorem dX7_isSo_41 : decode cX7_isSo 41 = .ok (.aload_n 0, 1) := by decide +kernel
theorem dX7_isSo_42 : decode cX7_isSo 42 = .ok (.getfield 28, 3) := by decide +kernel
theorem dX7_isSo_45 : decode cX7_isSo 45 = .ok (.iconst 3, 1) := by decide +kernel
theorem dX7_isSo_46 : decode cX7_isSo 46 = .ok (.iload_n 2, 1) := by decide +kernel
theorem dX7_isSo_47 : decode cX7_isSo 47 = .ok (.imul, 1) := by decide +kernel
theorem dX7_isSo_48 : decode cX7_isSo 48 = .ok (.iaload, 1) := by decide +kernel
theorem dX7_isSo_49 : decode cX7_isSo 49 = .ok (.if_icmp .ge 15, 3) := by decide +kernel
theorem dX7_isSo_52 : decode cX7_isSo 52 = .ok (.aload_n 0, 1) := by decide +kernel
theorem dX7_isSo_53 : decode cX7_isSo 53 = .ok (.iconst 1, 1) := by decide +kernel
theorem dX7_isSo_54 : decode cX7_isSo 54 = .ok (.invokevirtual 142, 3) := by decide +kernel
theorem dX7_isSo_57 : decode cX7_isSo 57 = .ok (.pop, 1) := by decide +kernel
theorem dX7_isSo_58 : decode cX7_isSo 58 = .ok (.iinc 3 1, 3) := by decide +kernel
theorem dX7_isSo_61 : decode cX7_isSo 61 = .ok (.goto (-21), 3) := by decide +kernel
theorem dX7_isSo_64 : decode cX7_isSo 64 = .ok (.iload_n 1, 1) := by decide +kernel
theorem dX7_isSo_65 : decode cX7_isSo 65 = .ok (.ifCond .eq 56, 3) := by decide +kernel
theorem dX7_isSo_68 : decode cX7_isSo 68 = .ok (.aload_n 0, 1) := by decide +kernel
theorem dX7_isSo_69 : decode cX7_isSo 69 = .ok (.getfield 19, 3) := by decide +kernel
theorem dX7_isSo_72 : decode cX7_isSo 72 = .ok (.bipush 7, 2) := by decide +kernel
theorem dX7_isSo_74 : decode cX7_isSo 74 = .ok (.aload_n 0, 1) := by decide +kernel
theorem dX7_isSo_75 : decode cX7_isSo 75 = .ok (.getfield 28, 3) := by decide +kernel
theorem dX7_isSo_78 : decode cX7_isSo 78 = .ok (.iconst 3, 1) := by decide +kernel
theorem dX7_isSo_79 : decode cX7_isSo 79 = .ok (.iload_n 2, 1) := by decide +kernel
theorem dX7_isSo_80 : decode cX7_isSo 80 = .ok (.imul, 1) := by decide +kernel
theorem dX7_isSo_81 : decode cX7_isSo 81 = .ok (.iconst 1, 1) := by decide +kernel
theorem dX7_isSo_82 : decode cX7_isSo 82 = .ok (.iadd, 1) := by decide +kernel
theorem dX7_isSo_83 : decode cX7_isSo 83 = .ok (.iaload, 1) := by decide +kernel
theorem dX7_isSo_84 : decode cX7_isSo 84 = .ok (.iadd, 1) := by decide +kernel
theorem dX7_isSo_85 : decode cX7_isSo 85 = .ok (.iaload, 1) := by decide +kernel
theorem dX7_isSo_86 : decode cX7_isSo 86 = .ok (.iconst (-1), 1) := by decide +kernel
theorem dX7_isSo_87 : decode cX7_isSo 87 = .ok (.if_icmp .ne 7, 3) := by decide +kernel
theorem dX7_isSo_90 : decode cX7_isSo 90 = .ok (.iconst 1, 1) := by decide +kernel
theorem dX7_isSo_91 : decode cX7_isSo 91 = .ok (.goto 4, 3) := by decide +kernel
theorem dX7_isSo_94 : decode cX7_isSo 94 = .ok (.iconst 0, 1) := by decide +kernel
theorem dX7_isSo_95 : decode cX7_isSo 95 = .ok (.aload_n 0, 1) := by decide +kernel
theorem dX7_isSo_96 : decode cX7_isSo 96 = .ok (.getfield 28, 3) := by decide +kernel
theorem dX7_isSo_99 : decode cX7_isSo 99 = .ok (.iconst 3, 1) := by decide +kernel
theorem dX7_isSo_100 : decode cX7_isSo 100 = .ok (.iload_n 2, 1) := by decide +kernel
theorem dX7_isSo_101 : decode cX7_isSo 101 = .ok (.imul, 1) := by decide +kernel
theorem dX7_isSo_102 : decode cX7_isSo 102 = .ok (.iconst 2, 1) := by decide +kernel
theorem dX7_isSo_103 : decode cX7_isSo 103 = .ok (.iadd, 1) := by decide +kernel
theorem dX7_isSo_104 : decode cX7_isSo 104 = .ok (.iaload, 1) := by decide +kernel
theorem dX7_isSo_105 : decode cX7_isSo 105 = .ok (.iconst 1, 1) := by decide +kernel
theorem dX7_isSo_106 : decode cX7_isSo 106 = .ok (.if_icmp .ne 7, 3) := by decide +kernel
theorem dX7_isSo_109 : decode cX7_isSo 109 = .ok (.iconst 1, 1) := by decide +kernel
theorem dX7_isSo_110 : decode cX7_isSo 110 = .ok (.goto 4, 3) := by decide +kernel
theorem dX7_isSo_113 : decode cX7_isSo 113 = .ok (.iconst 0, 1) := by decide +kernel
theorem dX7_isSo_114 : decode cX7_isSo 114 = .ok (.if_icmp .ne 7, 3) := by decide +kernel
theorem dX7_isSo_117 : decode cX7_isSo 117 = .ok (.iconst 1, 1) := by decide +kernel
theorem dX7_isSo_118 : decode cX7_isSo 118 = .ok (.goto 4, 3) := by decide +kernel
theorem dX7_isSo_121 : decode cX7_isSo 121 = .ok (.iconst 0, 1) := by decide +kernel
theorem dX7_isSo_122 : decode cX7_isSo 122 = .ok (.istore_n 1, 1) := by decide +kernel
theorem dX7_isSo_123 : decode cX7_isSo 123 = .ok (.iconst 0, 1) := by decide +kernel
theorem dX7_isSo_124 : decode cX7_isSo 124 = .ok (.istore_n 3, 1) := by decide +kernel
theorem dX7_isSo_125 : decode cX7_isSo 125 = .ok (.iload_n 3, 1) := by decide +kernel
theorem dX7_isSo_126 : decode cX7_isSo 126 = .ok (.bipush 21, 2) := by decide +kernel
theorem dX7_isSo_128 : decode cX7_isSo 128 = .ok (.if_icmp .ge 21, 3) := by decide +kernel
theorem dX7_isSo_131 : decode cX7_isSo 131 = .ok (.aload_n 0, 1) := by decide +kernel
theorem dX7_isSo_132 : decode cX7_isSo 132 = .ok (.getfield 19, 3) := by decide +kernel
theorem dX7_isSo_135 : decode cX7_isSo 135 = .ok (.iload_n 3, 1) := by decide +kernel
theorem dX7_isSo_136 : decode cX7_isSo 136 = .ok (.aload_n 0, 1) := by decide +kernel
theorem dX7_isSo_137 : decode cX7_isSo 137 = .ok (.getfield 46, 3) := by decide +kernel
theorem dX7_isSo_140 : decode cX7_isSo 140 = .ok (.iload_n 3, 1) := by decide +kernel
theorem dX7_isSo_141 : decode cX7_isSo 141 = .ok (.iaload, 1) := by decide +kernel
theorem dX7_isSo_142 : decode cX7_isSo 142 = .ok (.iastore, 1) := by decide +kernel
theorem dX7_isSo_143 : decode cX7_isSo 143 = .ok (.iinc 3 1, 3) := by decide +kernel
theorem dX7_isSo_146 : decode cX7_isSo 146 = .ok (.goto (-21), 3) := by decide +kernel
theorem dX7_isSo_149 : decode cX7_isSo 149 = .ok (.iinc 2 1, 3) := by decide +kernel
theorem dX7_isSo_152 : decode cX7_isSo 152 = .ok (.goto (-122), 3) := by decide +kernel
theorem dX7_isSo_155 : decode cX7_isSo 155 = .ok (.iload_n 1, 1) := by decide +kernel
end
section
theorem dX7_isSo_156 : decode cX7_isSo 156 = .ok (.ireturn, 1) := by decide +kernel
theorem dX7_plots_0 : decode cX7_plots 0 = .ok (.aload_n 0, 1) := by decide +kernel
theorem dX7_plots_1 : decode cX7_plots 1 = .ok (.iload_n 1, 1) := by decide +kernel
theorem dX7_plots_2 : decode cX7_plots 2 = .ok (.invokevirtual 133, 3) := by decide +kernel
theorem dX7_plots_5 : decode cX7_plots 5 = .ok (.ifCond .ne 5, 3) := by decide +kernel
theorem dX7_plots_8 : decode cX7_plots 8 = .ok (.iconst (-1), 1) := by decide +kernel
theorem dX7_plots_9 : decode cX7_plots 9 = .ok (.ireturn, 1) := by decide +kernel
theorem dX7_plots_10 : decode cX7_plots 10 = .ok (.iconst 0, 1) := by decide +kernel
theorem dX7_plots_11 : decode cX7_plots 11 = .ok (.istore_n 2, 1) := by decide +kernel
theorem dX7_plots_12 : decode cX7_plots 12 = .ok (.aload_n 0, 1) := by decide +kernel
theorem dX7_plots_13 : decode cX7_plots 13 = .ok (.invokevirtual 153, 3) := by decide +kernel
theorem dX7_plots_16 : decode cX7_plots 16 = .ok (.iconst 0, 1) := by decide +kernel
theorem dX7_plots_17 : decode cX7_plots 17 = .ok (.istore_n 3, 1) := by decide +kernel
theorem dX7_plots_18 : decode cX7_plots 18 = .ok (.iload_n 3, 1) := by decide +kernel
theorem dX7_plots_19 : decode cX7_plots 19 = .ok (.aload_n 0, 1) := by decide +kernel
theorem dX7_plots_20 : decode cX7_plots 20 = .ok (.getfield 13, 3) := by decide +kernel
theorem dX7_plots_23 : decode cX7_plots 23 = .ok (.iconst 0, 1) := by decide +kernel
theorem dX7_plots_24 : decode cX7_plots 24 = .ok (.iaload, 1) := by decide +kernel
theorem dX7_plots_25 : decode cX7_plots 25 = .ok (.if_icmp .ge 42, 3) := by decide +kernel
theorem dX7_plots_28 : decode cX7_plots 28 = .ok (.aload_n 0, 1) := by decide +kernel
theorem dX7_plots_29 : decode cX7_plots 29 = .ok (.iload_n 1, 1) := by decide +kernel
theorem dX7_plots_30 : decode cX7_plots 30 = .ok (.invokevirtual 136, 3) := by decide +kernel
theorem dX7_plots_33 : decode cX7_plots 33 = .ok (.pop, 1) := by decide +kernel
theorem dX7_plots_34 : decode cX7_plots 34 = .ok (.aload_n 0, 1) := by decide +kernel
theorem dX7_plots_35 : decode cX7_plots 35 = .ok (.iload_n 1, 1) := by decide +kernel
theorem dX7_plots_36 : decode cX7_plots 36 = .ok (.iload_n 3, 1) := by decide +kernel
theorem dX7_plots_37 : decode cX7_plots 37 = .ok (.invokevirtual 95, 3) := by decide +kernel
theorem dX7_plots_40 : decode cX7_plots 40 = .ok (.iload_n 2, 1) := by decide +kernel
theorem dX7_plots_41 : decode cX7_plots 41 = .ok (.aload_n 0, 1) := by decide +kernel
theorem dX7_plots_42 : decode cX7_plots 42 = .ok (.invokevirtual 180, 3) := by decide +kernel
theorem dX7_plots_45 : decode cX7_plots 45 = .ok (.ifCond .eq 9, 3) := by decide +kernel
theorem dX7_plots_48 : decode cX7_plots 48 = .ok (.iconst 1, 1) := by decide +kernel
theorem dX7_plots_49 : decode cX7_plots 49 = .ok (.iload_n 3, 1) := by decide +kernel
theorem dX7_plots_50 : decode cX7_plots 50 = .ok (.ishl, 1) := by decide +kernel
theorem dX7_plots_51 : decode cX7_plots 51 = .ok (.goto 4, 3) := by decide +kernel
theorem dX7_plots_54 : decode cX7_plots 54 = .ok (.iconst 0, 1) := by decide +kernel
theorem dX7_plots_55 : decode cX7_plots 55 = .ok (.ior, 1) := by decide +kernel
theorem dX7_plots_56 : decode cX7_plots 56 = .ok (.istore_n 2, 1) := by decide +kernel
theorem dX7_plots_57 : decode cX7_plots 57 = .ok (.aload_n 0, 1) := by decide +kernel
theorem dX7_plots_58 : decode cX7_plots 58 = .ok (.invokevirtual 118, 3) := by decide +kernel
theorem dX7_plots_61 : decode cX7_plots 61 = .ok (.iinc 3 1, 3) := by decide +kernel
theorem dX7_plots_64 : decode cX7_plots 64 = .ok (.goto (-46), 3) := by decide +kernel
theorem dX7_plots_67 : decode cX7_plots 67 = .ok (.iload_n 2, 1) := by decide +kernel
theorem dX7_plots_68 : decode cX7_plots 68 = .ok (.ireturn, 1) := by decide +kernel
theorem dX7_kinds_0 : decode cX7_kinds 0 = .ok (.aload_n 0, 1) := by decide +kernel
theorem dX7_kinds_1 : decode cX7_kinds 1 = .ok (.iload_n 1, 1) := by decide +kernel
theorem dX7_kinds_2 : decode cX7_kinds 2 = .ok (.invokevirtual 133, 3) := by decide +kernel
theorem dX7_kinds_5 : decode cX7_kinds 5 = .ok (.ifCond .ne 5, 3) := by decide +kernel
theorem dX7_kinds_8 : decode cX7_kinds 8 = .ok (.iconst (-1), 1) := by decide +kernel
theorem dX7_kinds_9 : decode cX7_kinds 9 = .ok (.ireturn, 1) := by decide +kernel
theorem dX7_kinds_10 : decode cX7_kinds 10 = .ok (.aload_n 0, 1) := by decide +kernel
theorem dX7_kinds_11 : decode cX7_kinds 11 = .ok (.getfield 13, 3) := by decide +kernel
theorem dX7_kinds_14 : decode cX7_kinds 14 = .ok (.iconst 2, 1) := by decide +kernel
theorem dX7_kinds_15 : decode cX7_kinds 15 = .ok (.iload_n 1, 1) := by decide +kernel
theorem dX7_kinds_16 : decode cX7_kinds 16 = .ok (.iadd, 1) := by decide +kernel
theorem dX7_kinds_17 : decode cX7_kinds 17 = .ok (.iaload, 1) := by decide +kernel
theorem dX7_kinds_18 : decode cX7_kinds 18 = .ok (.istore_n 2, 1) := by decide +kernel
theorem dX7_kinds_19 : decode cX7_kinds 19 = .ok (.iconst 0, 1) := by decide +kernel
theorem dX7_kinds_20 : decode cX7_kinds 20 = .ok (.istore_n 3, 1) := by decide +kernel
theorem dX7_kinds_21 : decode cX7_kinds 21 = .ok (.iconst 0, 1) := by decide +kernel
theorem dX7_kinds_22 : decode cX7_kinds 22 = .ok (.istore 4, 2) := by decide +kernel
theorem dX7_kinds_24 : decode cX7_kinds 24 = .ok (.iload 4, 2) := by decide +kernel
theorem dX7_kinds_26 : decode cX7_kinds 26 = .ok (.iconst 3, 1) := by decide +kernel
theorem dX7_kinds_27 : decode cX7_kinds 27 = .ok (.if_icmp .gt 37, 3) := by decide +kernel
theorem dX7_kinds_30 : decode cX7_kinds 30 = .ok (.aload_n 0, 1) := by decide +kernel
theorem dX7_kinds_31 : decode cX7_kinds 31 = .ok (.getfield 13, 3) := by decide +kernel
theorem dX7_kinds_34 : decode cX7_kinds 34 = .ok (.iconst 2, 1) := by decide +kernel
theorem dX7_kinds_35 : decode cX7_kinds 35 = .ok (.iload_n 1, 1) := by decide +kernel
theorem dX7_kinds_36 : decode cX7_kinds 36 = .ok (.iadd, 1) := by decide +kernel
theorem dX7_kinds_37 : decode cX7_kinds 37 = .ok (.iload 4, 2) := by decide +kernel
theorem dX7_kinds_39 : decode cX7_kinds 39 = .ok (.iastore, 1) := by decide +kernel
theorem dX7_kinds_40 : decode cX7_kinds 40 = .ok (.iload_n 3, 1) := by decide +kernel
theorem dX7_kinds_41 : decode cX7_kinds 41 = .ok (.aload_n 0, 1) := by decide +kernel
theorem dX7_kinds_42 : decode cX7_kinds 42 = .ok (.invokevirtual 180, 3) := by decide +kernel
theorem dX7_kinds_45 : decode cX7_kinds 45 = .ok (.ifCond .eq 10, 3) := by decide +kernel
theorem dX7_kinds_48 : decode cX7_kinds 48 = .ok (.iconst 1, 1) := by decide +kernel
theorem dX7_kinds_49 : decode cX7_kinds 49 = .ok (.iload 4, 2) := by decide +kernel
theorem dX7_kinds_51 : decode cX7_kinds 51 = .ok (.ishl, 1) := by decide +kernel
theorem dX7_kinds_52 : decode cX7_kinds 52 = .ok (.goto 4, 3) := by decide +kernel
theorem dX7_kinds_55 : decode cX7_kinds 55 = .ok (.iconst 0, 1) := by decide +kernel
theorem dX7_kinds_56 : decode cX7_kinds 56 = .ok (.ior, 1) := by decide +kernel
theorem dX7_kinds_57 : decode cX7_kinds 57 = .ok (.istore_n 3, 1) := by decide +kernel
theorem dX7_kinds_58 : decode cX7_kinds 58 = .ok (.iinc 4 1, 3) := by decide +kernel
theorem dX7_kinds_61 : decode cX7_kinds 61 = .ok (.goto (-37), 3) := by decide +kernel
theorem dX7_kinds_64 : decode cX7_kinds 64 = .ok (.aload_n 0, 1) := by decide +kernel
theorem dX7_kinds_65 : decode cX7_kinds 65 = .ok (.getfield 13, 3) := by decide +kernel
theorem dX7_kinds_68 : decode cX7_kinds 68 = .ok (.iconst 2, 1) := by decide +kernel
theorem dX7_kinds_69 : decode cX7_kinds 69 = .ok (.iload_n 1, 1) := by decide +kernel
theorem dX7_kinds_70 : decode cX7_kinds 70 = .ok (.iadd, 1) := by decide +kernel
theorem dX7_kinds_71 : decode cX7_kinds 71 = .ok (.iload_n 2, 1) := by decide +kernel
theorem dX7_kinds_72 : decode cX7_kinds 72 = .ok (.iastore, 1) := by decide +kernel
theorem dX7_kinds_73 : decode cX7_kinds 73 = .ok (.iload_n 3, 1) := by decide +kernel
theorem dX7_kinds_74 : decode cX7_kinds 74 = .ok (.ireturn, 1) := by decide +kernel
theorem dX7_likely_0 : decode cX7_likely 0 = .ok (.aload_n 0, 1) := by decide +kernel
theorem dX7_likely_1 : decode cX7_likely 1 = .ok (.iload_n 1, 1) := by decide +kernel
theorem dX7_likely_2 : decode cX7_likely 2 = .ok (.invokevirtual 133, 3) := by decide +kernel
theorem dX7_likely_5 : decode cX7_likely 5 = .ok (.ifCond .eq 33, 3) := by decide +kernel
theorem dX7_likely_8 : decode cX7_likely 8 = .ok (.iload_n 2, 1) := by decide +kernel
theorem dX7_likely_9 : decode cX7_likely 9 = .ok (.iconst 0, 1) := by decide +kernel
theorem dX7_likely_10 : decode cX7_likely 10 = .ok (.bipush 8, 2) := by decide +kernel
theorem dX7_likely_12 : decode cX7_likely 12 = .ok (.invokestatic 56, 3) := by decide +kernel
theorem dX7_likely_15 : decode cX7_likely 15 = .ok (.ifCond .eq 23, 3) := by decide +kernel
theorem dX7_likely_18 : decode cX7_likely 18 = .ok (.iload_n 3, 1) := by decide +kernel
theorem dX7_likely_19 : decode cX7_likely 19 = .ok (.iconst 0, 1) := by decide +kernel
theorem dX7_likely_20 : decode cX7_likely 20 = .ok (.bipush 10, 2) := by decide +kernel
theorem dX7_likely_22 : decode cX7_likely 22 = .ok (.invokestatic 56, 3) := by decide +kernel
theorem dX7_likely_25 : decode cX7_likely 25 = .ok (.ifCond .eq 13, 3) := by decide +kernel
theorem dX7_likely_28 : decode cX7_likely 28 = .ok (.iload 4, 2) := by decide +kernel
theorem dX7_likely_30 : decode cX7_likely 30 = .ok (.iconst 0, 1) := by decide +kernel
theorem dX7_likely_31 : decode cX7_likely 31 = .ok (.iconst 1, 1) := by decide +kernel
theorem dX7_likely_32 : decode cX7_likely 32 = .ok (.invokestatic 56, 3) := by decide +kernel
theorem dX7_likely_35 : decode cX7_likely 35 = .ok (.ifCond .ne 5, 3) := by decide +kernel
theorem dX7_likely_38 : decode cX7_likely 38 = .ok (.iconst (-1), 1) := by decide +kernel
theorem dX7_likely_39 : decode cX7_likely 39 = .ok (.ireturn, 1) := by decide +kernel
theorem dX7_likely_40 : decode cX7_likely 40 = .ok (.aload_n 0, 1) := by decide +kernel
theorem dX7_likely_41 : decode cX7_likely 41 = .ok (.getfield 19, 3) := by decide +kernel
theorem dX7_likely_44 : decode cX7_likely 44 = .ok (.bipush 7, 2) := by decide +kernel
theorem dX7_likely_46 : decode cX7_likely 46 = .ok (.iload_n 1, 1) := by decide +kernel
theorem dX7_likely_47 : decode cX7_likely 47 = .ok (.iadd, 1) := by decide +kernel
theorem dX7_likely_48 : decode cX7_likely 48 = .ok (.iaload, 1) := by decide +kernel
theorem dX7_likely_49 : decode cX7_likely 49 = .ok (.iconst (-1), 1) := by decide +kernel
theorem dX7_likely_50 : decode cX7_likely 50 = .ok (.if_icmp .ne 6, 3) := by decide +kernel
theorem dX7_likely_53 : decode cX7_likely 53 = .ok (.bipush (-2), 2) := by decide +kernel
theorem dX7_likely_55 : decode cX7_likely 55 = .ok (.ireturn, 1) := by decide +kernel
theorem dX7_likely_56 : decode cX7_likely 56 = .ok (.aload_n 0, 1) := by decide +kernel
theorem dX7_likely_57 : decode cX7_likely 57 = .ok (.invokevirtual 153, 3) := by decide +kernel
theorem dX7_likely_60 : decode cX7_likely 60 = .ok (.iconst 0, 1) := by decide +kernel
theorem dX7_likely_61 : decode cX7_likely 61 = .ok (.istore 5, 2) := by decide +kernel
theorem dX7_likely_63 : decode cX7_likely 63 = .ok (.iconst 1, 1) := by decide +kernel
theorem dX7_likely_64 : decode cX7_likely 64 = .ok (.istore 6, 2) := by decide +kernel
theorem dX7_likely_66 : decode cX7_likely 66 = .ok (.iconst 0, 1) := by decide +kernel
theorem dX7_likely_67 : decode cX7_likely 67 = .ok (.istore 7, 2) := by decide +kernel
theorem dX7_likely_69 : decode cX7_likely 69 = .ok (.iload 7, 2) := by decide +kernel
theorem dX7_likely_71 : decode cX7_likely 71 = .ok (.iload_n 2, 1) := by decide +kernel
theorem dX7_likely_72 : decode cX7_likely 72 = .ok (.if_icmp .ge 16, 3) := by decide +kernel
theorem dX7_likely_75 : decode cX7_likely 75 = .ok (.iload 6, 2) := by decide +kernel
theorem dX7_likely_77 : decode cX7_likely 77 = .ok (.bipush 10, 2) := by decide +kernel
theorem dX7_likely_79 : decode cX7_likely 79 = .ok (.imul, 1) := by decide +kernel
theorem dX7_likely_80 : decode cX7_likely 80 = .ok (.istore 6, 2) := by decide +kernel
theorem dX7_likely_82 : decode cX7_likely 82 = .ok (.iinc 7 1, 3) := by decide +kernel
theorem dX7_likely_85 : decode cX7_likely 85 = .ok (.goto (-16), 3) := by decide +kernel
theorem dX7_likely_88 : decode cX7_likely 88 = .ok (.iconst 0, 1) := by decide +kernel
theorem dX7_likely_89 : decode cX7_likely 89 = .ok (.istore 7, 2) := by decide +kernel
theorem dX7_likely_91 : decode cX7_likely 91 = .ok (.iload 7, 2) := by decide +kernel
theorem dX7_likely_93 : decode cX7_likely 93 = .ok (.iconst 1, 1) := by decide +kernel
theorem dX7_likely_94 : decode cX7_likely 94 = .ok (.iload_n 2, 1) := by decide +kernel
theorem dX7_likely_95 : decode cX7_likely 95 = .ok (.ishl, 1) := by decide +kernel
theorem dX7_likely_96 : decode cX7_likely 96 = .ok (.if_icmp .ge 98, 3) := by decide +kernel
theorem dX7_likely_99 : decode cX7_likely 99 = .ok (.iconst 1, 1) := by decide +kernel
theorem dX7_likely_100 : decode cX7_likely 100 = .ok (.istore 8, 2) := by decide +kernel
theorem dX7_likely_102 : decode cX7_likely 102 = .ok (.iconst 0, 1) := by decide +kernel
theorem dX7_likely_103 : decode cX7_likely 103 = .ok (.istore 9, 2) := by decide +kernel
theorem dX7_likely_105 : decode cX7_likely 105 = .ok (.iload 9, 2) := by decide +kernel
theorem dX7_likely_107 : decode cX7_likely 107 = .ok (.iload_n 2, 1) := by decide +kernel
theorem dX7_likely_108 : decode cX7_likely 108 = .ok (.if_icmp .ge 52, 3) := by decide +kernel
theorem dX7_likely_111 : decode cX7_likely 111 = .ok (.iload 7, 2) := by decide +kernel
theorem dX7_likely_113 : decode cX7_likely 113 = .ok (.iload 9, 2) := by decide +kernel
theorem dX7_likely_115 : decode cX7_likely 115 = .ok (.ishr, 1) := by decide +kernel
theorem dX7_likely_116 : decode cX7_likely 116 = .ok (.iconst 1, 1) := by decide +kernel
theorem dX7_likely_117 : decode cX7_likely 117 = .ok (.iand, 1) := by decide +kernel
theorem dX7_likely_118 : decode cX7_likely 118 = .ok (.iconst 1, 1) := by decide +kernel
theorem dX7_likely_119 : decode cX7_likely 119 = .ok (.if_icmp .ne 7, 3) := by decide +kernel
theorem dX7_likely_122 : decode cX7_likely 122 = .ok (.iconst 1, 1) := by decide +kernel
theorem dX7_likely_123 : decode cX7_likely 123 = .ok (.goto 4, 3) := by decide +kernel
theorem dX7_likely_126 : decode cX7_likely 126 = .ok (.iconst 0, 1) := by decide +kernel
theorem dX7_likely_127 : decode cX7_likely 127 = .ok (.istore 10, 2) := by decide +kernel
theorem dX7_likely_129 : decode cX7_likely 129 = .ok (.iload 8, 2) := by decide +kernel
theorem dX7_likely_131 : decode cX7_likely 131 = .ok (.iload 10, 2) := by decide +kernel
theorem dX7_likely_133 : decode cX7_likely 133 = .ok (.ifCond .eq 7, 3) := by decide +kernel
theorem dX7_likely_136 : decode cX7_likely 136 = .ok (.iload_n 3, 1) := by decide +kernel
theorem dX7_likely_137 : decode cX7_likely 137 = .ok (.goto 7, 3) := by decide +kernel
theorem dX7_likely_140 : decode cX7_likely 140 = .ok (.bipush 10, 2) := by decide +kernel
theorem dX7_likely_142 : decode cX7_likely 142 = .ok (.iload_n 3, 1) := by decide +kernel
theorem dX7_likely_143 : decode cX7_likely 143 = .ok (.isub, 1) := by decide +kernel
theorem dX7_likely_144 : decode cX7_likely 144 = .ok (.imul, 1) := by decide +kernel
theorem dX7_likely_145 : decode cX7_likely 145 = .ok (.istore 8, 2) := by decide +kernel
theorem dX7_likely_147 : decode cX7_likely 147 = .ok (.aload_n 0, 1) := by decide +kernel
theorem dX7_likely_148 : decode cX7_likely 148 = .ok (.iload 10, 2) := by decide +kernel
theorem dX7_likely_150 : decode cX7_likely 150 = .ok (.invokevirtual 142, 3) := by decide +kernel
theorem dX7_likely_153 : decode cX7_likely 153 = .ok (.pop, 1) := by decide +kernel
theorem dX7_likely_154 : decode cX7_likely 154 = .ok (.iinc 9 1, 3) := by decide +kernel
theorem dX7_likely_157 : decode cX7_likely 157 = .ok (.goto (-52), 3) := by decide +kernel
theorem dX7_likely_160 : decode cX7_likely 160 = .ok (.iload 5, 2) := by decide +kernel
theorem dX7_likely_162 : decode cX7_likely 162 = .ok (.aload_n 0, 1) := by decide +kernel
theorem dX7_likely_163 : decode cX7_likely 163 = .ok (.getfield 19, 3) := by decide +kernel
theorem dX7_likely_166 : decode cX7_likely 166 = .ok (.bipush 7, 2) := by decide +kernel
theorem dX7_likely_168 : decode cX7_likely 168 = .ok (.iload_n 1, 1) := by decide +kernel
theorem dX7_likely_169 : decode cX7_likely 169 = .ok (.iadd, 1) := by decide +kernel
theorem dX7_likely_170 : decode cX7_likely 170 = .ok (.iaload, 1) := by decide +kernel
theorem dX7_likely_171 : decode cX7_likely 171 = .ok (.iconst (-1), 1) := by decide +kernel
theorem dX7_likely_172 : decode cX7_likely 172 = .ok (.if_icmp .ne 7, 3) := by decide +kernel
theorem dX7_likely_175 : decode cX7_likely 175 = .ok (.iconst 0, 1) := by decide +kernel
theorem dX7_likely_176 : decode cX7_likely 176 = .ok (.goto 5, 3) := by decide +kernel
theorem dX7_likely_179 : decode cX7_likely 179 = .ok (.iload 8, 2) := by decide +kernel
theorem dX7_likely_181 : decode cX7_likely 181 = .ok (.iadd, 1) := by decide +kernel
theorem dX7_likely_182 : decode cX7_likely 182 = .ok (.istore 5, 2) := by decide +kernel
theorem dX7_likely_184 : decode cX7_likely 184 = .ok (.aload_n 0, 1) := by decide +kernel
theorem dX7_likely_185 : decode cX7_likely 185 = .ok (.invokevirtual 118, 3) := by decide +kernel
theorem dX7_likely_188 : decode cX7_likely 188 = .ok (.iinc 7 1, 3) := by decide +kernel
theorem dX7_likely_191 : decode cX7_likely 191 = .ok (.goto (-100), 3) := by decide +kernel
theorem dX7_likely_194 : decode cX7_likely 194 = .ok (.iload 5, 2) := by decide +kernel
theorem dX7_likely_196 : decode cX7_likely 196 = .ok (.istore 7, 2) := by decide +kernel
theorem dX7_likely_198 : decode cX7_likely 198 = .ok (.iload 6, 2) := by decide +kernel
theorem dX7_likely_200 : decode cX7_likely 200 = .ok (.istore 8, 2) := by decide +kernel
theorem dX7_likely_202 : decode cX7_likely 202 = .ok (.iload 8, 2) := by decide +kernel
theorem dX7_likely_204 : decode cX7_likely 204 = .ok (.ifCond .le 21, 3) := by decide +kernel
theorem dX7_likely_207 : decode cX7_likely 207 = .ok (.iload 7, 2) := by decide +kernel
theorem dX7_likely_209 : decode cX7_likely 209 = .ok (.iload 8, 2) := by decide +kernel
theorem dX7_likely_211 : decode cX7_likely 211 = .ok (.irem, 1) := by decide +kernel
theorem dX7_likely_212 : decode cX7_likely 212 = .ok (.istore 9, 2) := by decide +kernel
theorem dX7_likely_214 : decode cX7_likely 214 = .ok (.iload 8, 2) := by decide +kernel
theorem dX7_likely_216 : decode cX7_likely 216 = .ok (.istore 7, 2) := by decide +kernel
theorem dX7_likely_218 : decode cX7_likely 218 = .ok (.iload 9, 2) := by decide +kernel
theorem dX7_likely_220 : decode cX7_likely 220 = .ok (.istore 8, 2) := by decide +kernel
theorem dX7_likely_222 : decode cX7_likely 222 = .ok (.goto (-20), 3) := by decide +kernel
theorem dX7_likely_225 : decode cX7_likely 225 = .ok (.iload 4, 2) := by decide +kernel
theorem dX7_likely_227 : decode cX7_likely 227 = .ok (.ifCond .ne 11, 3) := by decide +kernel
theorem dX7_likely_230 : decode cX7_likely 230 = .ok (.iload 5, 2) := by decide +kernel
theorem dX7_likely_232 : decode cX7_likely 232 = .ok (.iload 7, 2) := by decide +kernel
theorem dX7_likely_234 : decode cX7_likely 234 = .ok (.idiv, 1) := by decide +kernel
theorem dX7_likely_235 : decode cX7_likely 235 = .ok (.goto 8, 3) := by decide +kernel
theorem dX7_likely_238 : decode cX7_likely 238 = .ok (.iload 6, 2) := by decide +kernel
theorem dX7_likely_240 : decode cX7_likely 240 = .ok (.iload 7, 2) := by decide +kernel
theorem dX7_likely_242 : decode cX7_likely 242 = .ok (.idiv, 1) := by decide +kernel
theorem dX7_likely_243 : decode cX7_likely 243 = .ok (.ireturn, 1) := by decide +kernel
theorem dX7_turn_0 : decode cX7_turn 0 = .ok (.iload_n 1, 1) := by decide +kernel
theorem dX7_turn_1 : decode cX7_turn 1 = .ok (.aload_n 0, 1) := by decide +kernel
theorem dX7_turn_2 : decode cX7_turn 2 = .ok (.getfield 13, 3) := by decide +kernel
theorem dX7_turn_5 : decode cX7_turn 5 = .ok (.iconst 1, 1) := by decide +kernel
theorem dX7_turn_6 : decode cX7_turn 6 = .ok (.iaload, 1) := by decide +kernel
theorem dX7_turn_7 : decode cX7_turn 7 = .ok (.irem, 1) := by decide +kernel
theorem dX7_turn_8 : decode cX7_turn 8 = .ok (.istore_n 2, 1) := by decide +kernel
theorem dX7_turn_9 : decode cX7_turn 9 = .ok (.iload_n 1, 1) := by decide +kernel
theorem dX7_turn_10 : decode cX7_turn 10 = .ok (.bipush 8, 2) := by decide +kernel
theorem dX7_turn_12 : decode cX7_turn 12 = .ok (.idiv, 1) := by decide +kernel
theorem dX7_turn_13 : decode cX7_turn 13 = .ok (.aload_n 0, 1) := by decide +kernel
theorem dX7_turn_14 : decode cX7_turn 14 = .ok (.getfield 13, 3) := by decide +kernel
theorem dX7_turn_17 : decode cX7_turn 17 = .ok (.iconst 0, 1) := by decide +kernel
theorem dX7_turn_18 : decode cX7_turn 18 = .ok (.iaload, 1) := by decide +kernel
theorem dX7_turn_19 : decode cX7_turn 19 = .ok (.irem, 1) := by decide +kernel
theorem dX7_turn_20 : decode cX7_turn 20 = .ok (.istore_n 3, 1) := by decide +kernel
theorem dX7_turn_21 : decode cX7_turn 21 = .ok (.aload_n 0, 1) := by decide +kernel
theorem dX7_turn_22 : decode cX7_turn 22 = .ok (.getfield 19, 3) := by decide +kernel
theorem dX7_turn_25 : decode cX7_turn 25 = .ok (.bipush 7, 2) := by decide +kernel
theorem dX7_turn_27 : decode cX7_turn 27 = .ok (.iload_n 2, 1) := by decide +kernel
theorem dX7_turn_28 : decode cX7_turn 28 = .ok (.iadd, 1) := by decide +kernel
theorem dX7_turn_29 : decode cX7_turn 29 = .ok (.iaload, 1) := by decide +kernel
theorem dX7_turn_30 : decode cX7_turn 30 = .ok (.iconst (-1), 1) := by decide +kernel
theorem dX7_turn_31 : decode cX7_turn 31 = .ok (.if_icmp .ne 28, 3) := by decide +kernel
theorem dX7_turn_34 : decode cX7_turn 34 = .ok (.aload_n 0, 1) := by decide +kernel
theorem dX7_turn_35 : decode cX7_turn 35 = .ok (.iload_n 2, 1) := by decide +kernel
theorem dX7_turn_36 : decode cX7_turn 36 = .ok (.iload_n 3, 1) := by decide +kernel
theorem dX7_turn_37 : decode cX7_turn 37 = .ok (.invokevirtual 145, 3) := by decide +kernel
theorem dX7_turn_40 : decode cX7_turn 40 = .ok (.ifCond .eq 42, 3) := by decide +kernel
theorem dX7_turn_43 : decode cX7_turn 43 = .ok (.aload_n 0, 1) := by decide +kernel
theorem dX7_turn_44 : decode cX7_turn 44 = .ok (.invokevirtual 149, 3) := by decide +kernel
theorem dX7_turn_47 : decode cX7_turn 47 = .ok (.ifCond .ne 35, 3) := by decide +kernel
theorem dX7_turn_50 : decode cX7_turn 50 = .ok (.aload_n 0, 1) := by decide +kernel
theorem dX7_turn_51 : decode cX7_turn 51 = .ok (.iload_n 2, 1) := by decide +kernel
theorem dX7_turn_52 : decode cX7_turn 52 = .ok (.iload_n 3, 1) := by decide +kernel
theorem dX7_turn_53 : decode cX7_turn 53 = .ok (.invokevirtual 95, 3) := by decide +kernel
theorem dX7_turn_56 : decode cX7_turn 56 = .ok (.goto 26, 3) := by decide +kernel
theorem dX7_turn_59 : decode cX7_turn 59 = .ok (.iload_n 1, 1) := by decide +kernel
theorem dX7_turn_60 : decode cX7_turn 60 = .ok (.bipush 64, 2) := by decide +kernel
theorem dX7_turn_62 : decode cX7_turn 62 = .ok (.idiv, 1) := by decide +kernel
theorem dX7_turn_63 : decode cX7_turn 63 = .ok (.iconst 4, 1) := by decide +kernel
theorem dX7_turn_64 : decode cX7_turn 64 = .ok (.irem, 1) := by decide +kernel
theorem dX7_turn_65 : decode cX7_turn 65 = .ok (.ifCond .ne 17, 3) := by decide +kernel
theorem dX7_turn_68 : decode cX7_turn 68 = .ok (.aload_n 0, 1) := by decide +kernel
theorem dX7_turn_69 : decode cX7_turn 69 = .ok (.getfield 19, 3) := by decide +kernel
theorem dX7_turn_72 : decode cX7_turn 72 = .ok (.iconst 1, 1) := by decide +kernel
theorem dX7_turn_73 : decode cX7_turn 73 = .ok (.dup2, 1) := by decide +kernel
theorem dX7_turn_74 : decode cX7_turn 74 = .ok (.iaload, 1) := by decide +kernel
theorem dX7_turn_75 : decode cX7_turn 75 = .ok (.aload_n 0, 1) := by decide +kernel
theorem dX7_turn_76 : decode cX7_turn 76 = .ok (.iload_n 2, 1) := by decide +kernel
theorem dX7_turn_77 : decode cX7_turn 77 = .ok (.invokevirtual 136, 3) := by decide +kernel
theorem dX7_turn_80 : decode cX7_turn 80 = .ok (.iadd, 1) := by decide +kernel
theorem dX7_turn_81 : decode cX7_turn 81 = .ok (.iastore, 1) := by decide +kernel
theorem dX7_turn_82 : decode cX7_turn 82 = .ok (.return_, 1) := by decide +kernel
theorem dX7_decade_0 : decode cX7_decade 0 = .ok (.iload_n 1, 1) := by decide +kernel
theorem dX7_decade_1 : decode cX7_decade 1 = .ok (.iconst 0, 1) := by decide +kernel
theorem dX7_decade_2 : decode cX7_decade 2 = .ok (.sipush 9999, 3) := by decide +kernel
theorem dX7_decade_5 : decode cX7_decade 5 = .ok (.invokestatic 56, 3) := by decide +kernel
theorem dX7_decade_8 : decode cX7_decade 8 = .ok (.ifCond .eq 22, 3) := by decide +kernel
theorem dX7_decade_11 : decode cX7_decade 11 = .ok (.iload_n 2, 1) := by decide +kernel
theorem dX7_decade_12 : decode cX7_decade 12 = .ok (.iconst 1, 1) := by decide +kernel
theorem dX7_decade_13 : decode cX7_decade 13 = .ok (.bipush 60, 2) := by decide +kernel
theorem dX7_decade_15 : decode cX7_decade 15 = .ok (.invokestatic 56, 3) := by decide +kernel
theorem dX7_decade_18 : decode cX7_decade 18 = .ok (.ifCond .eq 12, 3) := by decide +kernel
theorem dX7_decade_21 : decode cX7_decade 21 = .ok (.iload_n 3, 1) := by decide +kernel
theorem dX7_decade_22 : decode cX7_decade 22 = .ok (.iconst 0, 1) := by decide +kernel
theorem dX7_decade_23 : decode cX7_decade 23 = .ok (.iconst 2, 1) := by decide +kernel
theorem dX7_decade_24 : decode cX7_decade 24 = .ok (.invokestatic 56, 3) := by decide +kernel
theorem dX7_decade_27 : decode cX7_decade 27 = .ok (.ifCond .ne 5, 3) := by decide +kernel
theorem dX7_decade_30 : decode cX7_decade 30 = .ok (.iconst (-1), 1) := by decide +kernel
theorem dX7_decade_31 : decode cX7_decade 31 = .ok (.ireturn, 1) := by decide +kernel
theorem dX7_decade_32 : decode cX7_decade 32 = .ok (.aload_n 0, 1) := by decide +kernel
theorem dX7_decade_33 : decode cX7_decade 33 = .ok (.invokevirtual 153, 3) := by decide +kernel
theorem dX7_decade_36 : decode cX7_decade 36 = .ok (.iconst 0, 1) := by decide +kernel
theorem dX7_decade_37 : decode cX7_decade 37 = .ok (.istore 4, 2) := by decide +kernel
theorem dX7_decade_39 : decode cX7_decade 39 = .ok (.iload 4, 2) := by decide +kernel
theorem dX7_decade_41 : decode cX7_decade 41 = .ok (.iload_n 2, 1) := by decide +kernel
theorem dX7_decade_42 : decode cX7_decade 42 = .ok (.if_icmp .ge 51, 3) := by decide +kernel
theorem dX7_decade_45 : decode cX7_decade 45 = .ok (.ldc2_w 183, 3) := by decide +kernel
theorem dX7_decade_48 : decode cX7_decade 48 = .ok (.iload_n 1, 1) := by decide +kernel
theorem dX7_decade_49 : decode cX7_decade 49 = .ok (.i2l, 1) := by decide +kernel
theorem dX7_decade_50 : decode cX7_decade 50 = .ok (.lmul, 1) := by decide +kernel
theorem dX7_decade_51 : decode cX7_decade 51 = .ok (.ldc2_w 185, 3) := by decide +kernel
theorem dX7_decade_54 : decode cX7_decade 54 = .ok (.iload 4, 2) := by decide +kernel
theorem dX7_decade_56 : decode cX7_decade 56 = .ok (.i2l, 1) := by decide +kernel
theorem dX7_decade_57 : decode cX7_decade 57 = .ok (.lmul, 1) := by decide +kernel
theorem dX7_decade_58 : decode cX7_decade 58 = .ok (.ladd, 1) := by decide +kernel
theorem dX7_decade_59 : decode cX7_decade 59 = .ok (.lconst 1, 1) := by decide +kernel
theorem dX7_decade_60 : decode cX7_decade 60 = .ok (.ladd, 1) := by decide +kernel
theorem dX7_decade_61 : decode cX7_decade 61 = .ok (.lstore 5, 2) := by decide +kernel
theorem dX7_decade_63 : decode cX7_decade 63 = .ok (.aload_n 0, 1) := by decide +kernel
theorem dX7_decade_64 : decode cX7_decade 64 = .ok (.lload 5, 2) := by decide +kernel
theorem dX7_decade_66 : decode cX7_decade 66 = .ok (.lload 5, 2) := by decide +kernel
theorem dX7_decade_68 : decode cX7_decade 68 = .ok (.lmul, 1) := by decide +kernel
theorem dX7_decade_69 : decode cX7_decade 69 = .ok (.ldc2_w 187, 3) := by decide +kernel
theorem dX7_decade_72 : decode cX7_decade 72 = .ok (.lrem, 1) := by decide +kernel
theorem dX7_decade_73 : decode cX7_decade 73 = .ok (.ldc2_w 189, 3) := by decide +kernel
theorem dX7_decade_76 : decode cX7_decade 76 = .ok (.ldiv, 1) := by decide +kernel
theorem dX7_decade_77 : decode cX7_decade 77 = .ok (.l2i, 1) := by decide +kernel
theorem dX7_decade_78 : decode cX7_decade 78 = .ok (.invokevirtual 191, 3) := by decide +kernel
theorem dX7_decade_81 : decode cX7_decade 81 = .ok (.aload_n 0, 1) := by decide +kernel
theorem dX7_decade_82 : decode cX7_decade 82 = .ok (.iconst 1, 1) := by decide +kernel
theorem dX7_decade_83 : decode cX7_decade 83 = .ok (.invokevirtual 142, 3) := by decide +kernel
theorem dX7_decade_86 : decode cX7_decade 86 = .ok (.pop, 1) := by decide +kernel
theorem dX7_decade_87 : decode cX7_decade 87 = .ok (.iinc 4 1, 3) := by decide +kernel
theorem dX7_decade_90 : decode cX7_decade 90 = .ok (.goto (-51), 3) := by decide +kernel
theorem dX7_decade_93 : decode cX7_decade 93 = .ok (.aload_n 0, 1) := by decide +kernel
theorem dX7_decade_94 : decode cX7_decade 94 = .ok (.getfield 19, 3) := by decide +kernel
theorem dX7_decade_97 : decode cX7_decade 97 = .ok (.iconst 1, 1) := by decide +kernel
theorem dX7_decade_98 : decode cX7_decade 98 = .ok (.iaload, 1) := by decide +kernel
theorem dX7_decade_99 : decode cX7_decade 99 = .ok (.istore 4, 2) := by decide +kernel
theorem dX7_decade_101 : decode cX7_decade 101 = .ok (.aload_n 0, 1) := by decide +kernel
theorem dX7_decade_102 : decode cX7_decade 102 = .ok (.invokevirtual 171, 3) := by decide +kernel
theorem dX7_decade_105 : decode cX7_decade 105 = .ok (.istore 5, 2) := by decide +kernel
theorem dX7_decade_107 : decode cX7_decade 107 = .ok (.aload_n 0, 1) := by decide +kernel
theorem dX7_decade_108 : decode cX7_decade 108 = .ok (.invokevirtual 118, 3) := by decide +kernel
theorem dX7_decade_111 : decode cX7_decade 111 = .ok (.iload_n 3, 1) := by decide +kernel
theorem dX7_decade_112 : decode cX7_decade 112 = .ok (.ifCond .ne 11, 3) := by decide +kernel
theorem dX7_decade_115 : decode cX7_decade 115 = .ok (.iload 5, 2) := by decide +kernel
theorem dX7_decade_117 : decode cX7_decade 117 = .ok (.invokestatic 168, 3) := by decide +kernel
theorem dX7_decade_120 : decode cX7_decade 120 = .ok (.goto 26, 3) := by decide +kernel
theorem dX7_decade_123 : decode cX7_decade 123 = .ok (.iload_n 3, 1) := by decide +kernel
theorem dX7_decade_124 : decode cX7_decade 124 = .ok (.iconst 1, 1) := by decide +kernel
theorem dX7_decade_125 : decode cX7_decade 125 = .ok (.if_icmp .ne 12, 3) := by decide +kernel
theorem dX7_decade_128 : decode cX7_decade 128 = .ok (.aload_n 0, 1) := by decide +kernel
theorem dX7_decade_129 : decode cX7_decade 129 = .ok (.iload 5, 2) := by decide +kernel
theorem dX7_decade_131 : decode cX7_decade 131 = .ok (.invokevirtual 177, 3) := by decide +kernel
theorem dX7_decade_134 : decode cX7_decade 134 = .ok (.goto 12, 3) := by decide +kernel
theorem dX7_decade_137 : decode cX7_decade 137 = .ok (.iload 4, 2) := by decide +kernel
theorem dX7_decade_139 : decode cX7_decade 139 = .ok (.aload_n 0, 1) := by decide +kernel
theorem dX7_decade_140 : decode cX7_decade 140 = .ok (.getfield 19, 3) := by decide +kernel
theorem dX7_decade_143 : decode cX7_decade 143 = .ok (.iconst 1, 1) := by decide +kernel
theorem dX7_decade_144 : decode cX7_decade 144 = .ok (.iaload, 1) := by decide +kernel
theorem dX7_decade_145 : decode cX7_decade 145 = .ok (.isub, 1) := by decide +kernel
theorem dX7_decade_146 : decode cX7_decade 146 = .ok (.ireturn, 1) := by decide +kernel
theorem dX7_keep_0 : decode cX7_keep 0 = .ok (.aload_n 0, 1) := by decide +kernel
theorem dX7_keep_1 : decode cX7_keep 1 = .ok (.getfield 124, 3) := by decide +kernel
theorem dX7_keep_4 : decode cX7_keep 4 = .ok (.iconst 2, 1) := by decide +kernel
theorem dX7_keep_5 : decode cX7_keep 5 = .ok (.if_icmp .ne 6, 3) := by decide +kernel
theorem dX7_keep_8 : decode cX7_keep 8 = .ok (.bipush (-3), 2) := by decide +kernel
theorem dX7_keep_10 : decode cX7_keep 10 = .ok (.ireturn, 1) := by decide +kernel
theorem dX7_keep_11 : decode cX7_keep 11 = .ok (.iconst 0, 1) := by decide +kernel
theorem dX7_keep_12 : decode cX7_keep 12 = .ok (.istore_n 1, 1) := by decide +kernel
theorem dX7_keep_13 : decode cX7_keep 13 = .ok (.iload_n 1, 1) := by decide +kernel
theorem dX7_keep_14 : decode cX7_keep 14 = .ok (.bipush 21, 2) := by decide +kernel
theorem dX7_keep_16 : decode cX7_keep 16 = .ok (.if_icmp .ge 29, 3) := by decide +kernel
theorem dX7_keep_19 : decode cX7_keep 19 = .ok (.aload_n 0, 1) := by decide +kernel
theorem dX7_keep_20 : decode cX7_keep 20 = .ok (.getfield 25, 3) := by decide +kernel
theorem dX7_keep_23 : decode cX7_keep 23 = .ok (.bipush 21, 2) := by decide +kernel
theorem dX7_keep_25 : decode cX7_keep 25 = .ok (.aload_n 0, 1) := by decide +kernel
theorem dX7_keep_26 : decode cX7_keep 26 = .ok (.getfield 124, 3) := by decide +kernel
theorem dX7_keep_29 : decode cX7_keep 29 = .ok (.imul, 1) := by decide +kernel
theorem dX7_keep_30 : decode cX7_keep 30 = .ok (.iload_n 1, 1) := by decide +kernel
theorem dX7_keep_31 : decode cX7_keep 31 = .ok (.iadd, 1) := by decide +kernel
theorem dX7_keep_32 : decode cX7_keep 32 = .ok (.aload_n 0, 1) := by decide +kernel
theorem dX7_keep_33 : decode cX7_keep 33 = .ok (.getfield 19, 3) := by decide +kernel
theorem dX7_keep_36 : decode cX7_keep 36 = .ok (.iload_n 1, 1) := by decide +kernel
theorem dX7_keep_37 : decode cX7_keep 37 = .ok (.iaload, 1) := by decide +kernel
theorem dX7_keep_38 : decode cX7_keep 38 = .ok (.iastore, 1) := by decide +kernel
theorem dX7_keep_39 : decode cX7_keep 39 = .ok (.iinc 1 1, 3) := by decide +kernel
theorem dX7_keep_42 : decode cX7_keep 42 = .ok (.goto (-29), 3) := by decide +kernel
theorem dX7_keep_45 : decode cX7_keep 45 = .ok (.aload_n 0, 1) := by decide +kernel
theorem dX7_keep_46 : decode cX7_keep 46 = .ok (.dup, 1) := by decide +kernel
theorem dX7_keep_47 : decode cX7_keep 47 = .ok (.getfield 124, 3) := by decide +kernel
theorem dX7_keep_50 : decode cX7_keep 50 = .ok (.iconst 1, 1) := by decide +kernel
theorem dX7_keep_51 : decode cX7_keep 51 = .ok (.iadd, 1) := by decide +kernel
theorem dX7_keep_52 : decode cX7_keep 52 = .ok (.putfield 124, 3) := by decide +kernel
theorem dX7_keep_55 : decode cX7_keep 55 = .ok (.aload_n 0, 1) := by decide +kernel
theorem dX7_keep_56 : decode cX7_keep 56 = .ok (.getfield 124, 3) := by decide +kernel
theorem dX7_keep_59 : decode cX7_keep 59 = .ok (.ireturn, 1) := by decide +kernel
theorem dX7_back_0 : decode cX7_back 0 = .ok (.aload_n 0, 1) := by decide +kernel
theorem dX7_back_1 : decode cX7_back 1 = .ok (.getfield 124, 3) := by decide +kernel
theorem dX7_back_4 : decode cX7_back 4 = .ok (.ifCond .ne 6, 3) := by decide +kernel
theorem dX7_back_7 : decode cX7_back 7 = .ok (.bipush (-2), 2) := by decide +kernel
theorem dX7_back_9 : decode cX7_back 9 = .ok (.ireturn, 1) := by decide +kernel
theorem dX7_back_10 : decode cX7_back 10 = .ok (.aload_n 0, 1) := by decide +kernel
theorem dX7_back_11 : decode cX7_back 11 = .ok (.dup, 1) := by decide +kernel
theorem dX7_back_12 : decode cX7_back 12 = .ok (.getfield 124, 3) := by decide +kernel
theorem dX7_back_15 : decode cX7_back 15 = .ok (.iconst 1, 1) := by decide +kernel
theorem dX7_back_16 : decode cX7_back 16 = .ok (.isub, 1) := by decide +kernel
theorem dX7_back_17 : decode cX7_back 17 = .ok (.putfield 124, 3) := by decide +kernel
theorem dX7_back_20 : decode cX7_back 20 = .ok (.iconst 0, 1) := by decide +kernel
theorem dX7_back_21 : decode cX7_back 21 = .ok (.istore_n 1, 1) := by decide +kernel
theorem dX7_back_22 : decode cX7_back 22 = .ok (.iload_n 1, 1) := by decide +kernel
theorem dX7_back_23 : decode cX7_back 23 = .ok (.bipush 21, 2) := by decide +kernel
theorem dX7_back_25 : decode cX7_back 25 = .ok (.if_icmp .ge 29, 3) := by decide +kernel
theorem dX7_back_28 : decode cX7_back 28 = .ok (.aload_n 0, 1) := by decide +kernel
theorem dX7_back_29 : decode cX7_back 29 = .ok (.getfield 19, 3) := by decide +kernel
theorem dX7_back_32 : decode cX7_back 32 = .ok (.iload_n 1, 1) := by decide +kernel
theorem dX7_back_33 : decode cX7_back 33 = .ok (.aload_n 0, 1) := by decide +kernel
theorem dX7_back_34 : decode cX7_back 34 = .ok (.getfield 25, 3) := by decide +kernel
theorem dX7_back_37 : decode cX7_back 37 = .ok (.bipush 21, 2) := by decide +kernel
theorem dX7_back_39 : decode cX7_back 39 = .ok (.aload_n 0, 1) := by decide +kernel
theorem dX7_back_40 : decode cX7_back 40 = .ok (.getfield 124, 3) := by decide +kernel
theorem dX7_back_43 : decode cX7_back 43 = .ok (.imul, 1) := by decide +kernel
theorem dX7_back_44 : decode cX7_back 44 = .ok (.iload_n 1, 1) := by decide +kernel
theorem dX7_back_45 : decode cX7_back 45 = .ok (.iadd, 1) := by decide +kernel
theorem dX7_back_46 : decode cX7_back 46 = .ok (.iaload, 1) := by decide +kernel
theorem dX7_back_47 : decode cX7_back 47 = .ok (.iastore, 1) := by decide +kernel
theorem dX7_back_48 : decode cX7_back 48 = .ok (.iinc 1 1, 3) := by decide +kernel
theorem dX7_back_51 : decode cX7_back 51 = .ok (.goto (-29), 3) := by decide +kernel
theorem dX7_back_54 : decode cX7_back 54 = .ok (.aload_n 0, 1) := by decide +kernel
theorem dX7_back_55 : decode cX7_back 55 = .ok (.iconst 0, 1) := by decide +kernel
theorem dX7_back_56 : decode cX7_back 56 = .ok (.putfield 121, 3) := by decide +kernel
theorem dX7_back_59 : decode cX7_back 59 = .ok (.aload_n 0, 1) := by decide +kernel
theorem dX7_back_60 : decode cX7_back 60 = .ok (.getfield 124, 3) := by decide +kernel
theorem dX7_back_63 : decode cX7_back 63 = .ok (.ireturn, 1) := by decide +kernel
theorem dX7_count_0 : decode cX7_count 0 = .ok (.iload_n 1, 1) := by decide +kernel
theorem dX7_count_1 : decode cX7_count 1 = .ok (.tableswitch 137 0 10 #[59, 66, 73, 80, 88, 97, 110, 117, 122, 127, 132], 59) := by decide +kernel
theorem dX7_count_60 : decode cX7_count 60 = .ok (.aload_n 0, 1) := by decide +kernel
theorem dX7_count_61 : decode cX7_count 61 = .ok (.getfield 13, 3) := by decide +kernel
theorem dX7_count_64 : decode cX7_count 64 = .ok (.iconst 0, 1) := by decide +kernel
theorem dX7_count_65 : decode cX7_count 65 = .ok (.iaload, 1) := by decide +kernel
theorem dX7_count_66 : decode cX7_count 66 = .ok (.ireturn, 1) := by decide +kernel
theorem dX7_count_67 : decode cX7_count 67 = .ok (.aload_n 0, 1) := by decide +kernel
theorem dX7_count_68 : decode cX7_count 68 = .ok (.getfield 13, 3) := by decide +kernel
theorem dX7_count_71 : decode cX7_count 71 = .ok (.iconst 1, 1) := by decide +kernel
theorem dX7_count_72 : decode cX7_count 72 = .ok (.iaload, 1) := by decide +kernel
theorem dX7_count_73 : decode cX7_count 73 = .ok (.ireturn, 1) := by decide +kernel
theorem dX7_count_74 : decode cX7_count 74 = .ok (.aload_n 0, 1) := by decide +kernel
theorem dX7_count_75 : decode cX7_count 75 = .ok (.getfield 19, 3) := by decide +kernel
theorem dX7_count_78 : decode cX7_count 78 = .ok (.iconst 0, 1) := by decide +kernel
theorem dX7_count_79 : decode cX7_count 79 = .ok (.iaload, 1) := by decide +kernel
theorem dX7_count_80 : decode cX7_count 80 = .ok (.ireturn, 1) := by decide +kernel
theorem dX7_count_81 : decode cX7_count 81 = .ok (.aload_n 0, 1) := by decide +kernel
theorem dX7_count_82 : decode cX7_count 82 = .ok (.invokevirtual 171, 3) := by decide +kernel
theorem dX7_count_85 : decode cX7_count 85 = .ok (.invokestatic 168, 3) := by decide +kernel
theorem dX7_count_88 : decode cX7_count 88 = .ok (.ireturn, 1) := by decide +kernel
theorem dX7_count_89 : decode cX7_count 89 = .ok (.aload_n 0, 1) := by decide +kernel
theorem dX7_count_90 : decode cX7_count 90 = .ok (.aload_n 0, 1) := by decide +kernel
theorem dX7_count_91 : decode cX7_count 91 = .ok (.invokevirtual 171, 3) := by decide +kernel
theorem dX7_count_94 : decode cX7_count 94 = .ok (.invokevirtual 177, 3) := by decide +kernel
theorem dX7_count_97 : decode cX7_count 97 = .ok (.ireturn, 1) := by decide +kernel
theorem dX7_count_98 : decode cX7_count 98 = .ok (.aload_n 0, 1) := by decide +kernel
theorem dX7_count_99 : decode cX7_count 99 = .ok (.invokevirtual 149, 3) := by decide +kernel
theorem dX7_count_102 : decode cX7_count 102 = .ok (.ifCond .eq 7, 3) := by decide +kernel
theorem dX7_count_105 : decode cX7_count 105 = .ok (.iconst 1, 1) := by decide +kernel
theorem dX7_count_106 : decode cX7_count 106 = .ok (.goto 4, 3) := by decide +kernel
theorem dX7_count_109 : decode cX7_count 109 = .ok (.iconst 0, 1) := by decide +kernel
theorem dX7_count_110 : decode cX7_count 110 = .ok (.ireturn, 1) := by decide +kernel
theorem dX7_count_111 : decode cX7_count 111 = .ok (.aload_n 0, 1) := by decide +kernel
theorem dX7_count_112 : decode cX7_count 112 = .ok (.getfield 19, 3) := by decide +kernel
theorem dX7_count_115 : decode cX7_count 115 = .ok (.iconst 1, 1) := by decide +kernel
theorem dX7_count_116 : decode cX7_count 116 = .ok (.iaload, 1) := by decide +kernel
theorem dX7_count_117 : decode cX7_count 117 = .ok (.ireturn, 1) := by decide +kernel
theorem dX7_count_118 : decode cX7_count 118 = .ok (.aload_n 0, 1) := by decide +kernel
theorem dX7_count_119 : decode cX7_count 119 = .ok (.getfield 127, 3) := by decide +kernel
theorem dX7_count_122 : decode cX7_count 122 = .ok (.ireturn, 1) := by decide +kernel
theorem dX7_count_123 : decode cX7_count 123 = .ok (.aload_n 0, 1) := by decide +kernel
theorem dX7_count_124 : decode cX7_count 124 = .ok (.getfield 121, 3) := by decide +kernel
theorem dX7_count_127 : decode cX7_count 127 = .ok (.ireturn, 1) := by decide +kernel
theorem dX7_count_128 : decode cX7_count 128 = .ok (.aload_n 0, 1) := by decide +kernel
theorem dX7_count_129 : decode cX7_count 129 = .ok (.getfield 124, 3) := by decide +kernel
theorem dX7_count_132 : decode cX7_count 132 = .ok (.ireturn, 1) := by decide +kernel
theorem dX7_count_133 : decode cX7_count 133 = .ok (.aload_n 0, 1) := by decide +kernel
theorem dX7_count_134 : decode cX7_count 134 = .ok (.getfield 81, 3) := by decide +kernel
theorem dX7_count_137 : decode cX7_count 137 = .ok (.ireturn, 1) := by decide +kernel
theorem dX7_count_138 : decode cX7_count 138 = .ok (.iconst (-1), 1) := by decide +kernel
theorem dX7_count_139 : decode cX7_count 139 = .ok (.ireturn, 1) := by decide +kernel
theorem dJ6_bitCount_0f7a4_0 : decode cJ6_bitCount_0f7a4 0 = .ok (.iload_n 0, 1) := by decide +kernel
theorem dJ6_bitCount_0f7a4_1 : decode cJ6_bitCount_0f7a4 1 = .ok (.iload_n 0, 1) := by decide +kernel
theorem dJ6_bitCount_0f7a4_2 : decode cJ6_bitCount_0f7a4 2 = .ok (.iconst 1, 1) := by decide +kernel
theorem dJ6_bitCount_0f7a4_3 : decode cJ6_bitCount_0f7a4 3 = .ok (.iushr, 1) := by decide +kernel
theorem dJ6_bitCount_0f7a4_4 : decode cJ6_bitCount_0f7a4 4 = .ok (.ldc_w 265, 3) := by decide +kernel
theorem dJ6_bitCount_0f7a4_7 : decode cJ6_bitCount_0f7a4 7 = .ok (.iand, 1) := by decide +kernel
theorem dJ6_bitCount_0f7a4_8 : decode cJ6_bitCount_0f7a4 8 = .ok (.isub, 1) := by decide +kernel
theorem dJ6_bitCount_0f7a4_9 : decode cJ6_bitCount_0f7a4 9 = .ok (.istore_n 0, 1) := by decide +kernel
theorem dJ6_bitCount_0f7a4_10 : decode cJ6_bitCount_0f7a4 10 = .ok (.iload_n 0, 1) := by decide +kernel
theorem dJ6_bitCount_0f7a4_11 : decode cJ6_bitCount_0f7a4 11 = .ok (.ldc_w 266, 3) := by decide +kernel
theorem dJ6_bitCount_0f7a4_14 : decode cJ6_bitCount_0f7a4 14 = .ok (.iand, 1) := by decide +kernel
theorem dJ6_bitCount_0f7a4_15 : decode cJ6_bitCount_0f7a4 15 = .ok (.iload_n 0, 1) := by decide +kernel
theorem dJ6_bitCount_0f7a4_16 : decode cJ6_bitCount_0f7a4 16 = .ok (.iconst 2, 1) := by decide +kernel
theorem dJ6_bitCount_0f7a4_17 : decode cJ6_bitCount_0f7a4 17 = .ok (.iushr, 1) := by decide +kernel
theorem dJ6_bitCount_0f7a4_18 : decode cJ6_bitCount_0f7a4 18 = .ok (.ldc_w 266, 3) := by decide +kernel
theorem dJ6_bitCount_0f7a4_21 : decode cJ6_bitCount_0f7a4 21 = .ok (.iand, 1) := by decide +kernel
theorem dJ6_bitCount_0f7a4_22 : decode cJ6_bitCount_0f7a4 22 = .ok (.iadd, 1) := by decide +kernel
theorem dJ6_bitCount_0f7a4_23 : decode cJ6_bitCount_0f7a4 23 = .ok (.istore_n 0, 1) := by decide +kernel
theorem dJ6_bitCount_0f7a4_24 : decode cJ6_bitCount_0f7a4 24 = .ok (.iload_n 0, 1) := by decide +kernel
theorem dJ6_bitCount_0f7a4_25 : decode cJ6_bitCount_0f7a4 25 = .ok (.iload_n 0, 1) := by decide +kernel
theorem dJ6_bitCount_0f7a4_26 : decode cJ6_bitCount_0f7a4 26 = .ok (.iconst 4, 1) := by decide +kernel
theorem dJ6_bitCount_0f7a4_27 : decode cJ6_bitCount_0f7a4 27 = .ok (.iushr, 1) := by decide +kernel
theorem dJ6_bitCount_0f7a4_28 : decode cJ6_bitCount_0f7a4 28 = .ok (.iadd, 1) := by decide +kernel
theorem dJ6_bitCount_0f7a4_29 : decode cJ6_bitCount_0f7a4 29 = .ok (.ldc_w 267, 3) := by decide +kernel
theorem dJ6_bitCount_0f7a4_32 : decode cJ6_bitCount_0f7a4 32 = .ok (.iand, 1) := by decide +kernel
theorem dJ6_bitCount_0f7a4_33 : decode cJ6_bitCount_0f7a4 33 = .ok (.istore_n 0, 1) := by decide +kernel
theorem dJ6_bitCount_0f7a4_34 : decode cJ6_bitCount_0f7a4 34 = .ok (.iload_n 0, 1) := by decide +kernel
theorem dJ6_bitCount_0f7a4_35 : decode cJ6_bitCount_0f7a4 35 = .ok (.iload_n 0, 1) := by decide +kernel
theorem dJ6_bitCount_0f7a4_36 : decode cJ6_bitCount_0f7a4 36 = .ok (.bipush 8, 2) := by decide +kernel
theorem dJ6_bitCount_0f7a4_38 : decode cJ6_bitCount_0f7a4 38 = .ok (.iushr, 1) := by decide +kernel
theorem dJ6_bitCount_0f7a4_39 : decode cJ6_bitCount_0f7a4 39 = .ok (.iadd, 1) := by decide +kernel
theorem dJ6_bitCount_0f7a4_40 : decode cJ6_bitCount_0f7a4 40 = .ok (.istore_n 0, 1) := by decide +kernel
theorem dJ6_bitCount_0f7a4_41 : decode cJ6_bitCount_0f7a4 41 = .ok (.iload_n 0, 1) := by decide +kernel
theorem dJ6_bitCount_0f7a4_42 : decode cJ6_bitCount_0f7a4 42 = .ok (.iload_n 0, 1) := by decide +kernel
theorem dJ6_bitCount_0f7a4_43 : decode cJ6_bitCount_0f7a4 43 = .ok (.bipush 16, 2) := by decide +kernel
theorem dJ6_bitCount_0f7a4_45 : decode cJ6_bitCount_0f7a4 45 = .ok (.iushr, 1) := by decide +kernel
theorem dJ6_bitCount_0f7a4_46 : decode cJ6_bitCount_0f7a4 46 = .ok (.iadd, 1) := by decide +kernel
theorem dJ6_bitCount_0f7a4_47 : decode cJ6_bitCount_0f7a4 47 = .ok (.istore_n 0, 1) := by decide +kernel
theorem dJ6_bitCount_0f7a4_48 : decode cJ6_bitCount_0f7a4 48 = .ok (.iload_n 0, 1) := by decide +kernel
theorem dJ6_bitCount_0f7a4_49 : decode cJ6_bitCount_0f7a4 49 = .ok (.bipush 63, 2) := by decide +kernel
theorem dJ6_bitCount_0f7a4_51 : decode cJ6_bitCount_0f7a4 51 = .ok (.iand, 1) := by decide +kernel
theorem dJ6_bitCount_0f7a4_52 : decode cJ6_bitCount_0f7a4 52 = .ok (.ireturn, 1) := by decide +kernel
theorem dJ9_max_7cf53_0 : decode cJ9_max_7cf53 0 = .ok (.iload_n 0, 1) := by decide +kernel
theorem dJ9_max_7cf53_1 : decode cJ9_max_7cf53 1 = .ok (.iload_n 1, 1) := by decide +kernel
theorem dJ9_max_7cf53_2 : decode cJ9_max_7cf53 2 = .ok (.if_icmp .lt 7, 3) := by decide +kernel
theorem dJ9_max_7cf53_5 : decode cJ9_max_7cf53 5 = .ok (.iload_n 0, 1) := by decide +kernel
theorem dJ9_max_7cf53_6 : decode cJ9_max_7cf53 6 = .ok (.goto 4, 3) := by decide +kernel
theorem dJ9_max_7cf53_9 : decode cJ9_max_7cf53 9 = .ok (.iload_n 1, 1) := by decide +kernel
theorem dJ9_max_7cf53_10 : decode cJ9_max_7cf53 10 = .ok (.ireturn, 1) := by decide +kernel
theorem dL_law_0 : decode cL_law 0 = .ok (.new 7, 3) := by decide +kernel
theorem dL_law_3 : decode cL_law 3 = .ok (.dup, 1) := by decide +kernel
theorem dL_law_4 : decode cL_law 4 = .ok (.invokespecial 9, 3) := by decide +kernel
theorem dL_law_7 : decode cL_law 7 = .ok (.astore_n 1, 1) := by decide +kernel
theorem dL_law_8 : decode cL_law 8 = .ok (.new 10, 3) := by decide +kernel
theorem dL_law_11 : decode cL_law 11 = .ok (.dup, 1) := by decide +kernel
theorem dL_law_12 : decode cL_law 12 = .ok (.invokespecial 12, 3) := by decide +kernel
theorem dL_law_15 : decode cL_law 15 = .ok (.astore_n 2, 1) := by decide +kernel
theorem dL_law_16 : decode cL_law 16 = .ok (.iconst 0, 1) := by decide +kernel
theorem dL_law_17 : decode cL_law 17 = .ok (.istore_n 3, 1) := by decide +kernel
theorem dL_law_18 : decode cL_law 18 = .ok (.iload_n 3, 1) := by decide +kernel
theorem dL_law_19 : decode cL_law 19 = .ok (.aload_n 0, 1) := by decide +kernel
theorem dL_law_20 : decode cL_law 20 = .ok (.arraylength, 1) := by decide +kernel
theorem dL_law_21 : decode cL_law 21 = .ok (.iconst 5, 1) := by decide +kernel
theorem dL_law_22 : decode cL_law 22 = .ok (.isub, 1) := by decide +kernel
theorem dL_law_23 : decode cL_law 23 = .ok (.if_icmp .gt 874, 3) := by decide +kernel
theorem dL_law_26 : decode cL_law 26 = .ok (.aload_n 0, 1) := by decide +kernel
theorem dL_law_27 : decode cL_law 27 = .ok (.iload_n 3, 1) := by decide +kernel
theorem dL_law_28 : decode cL_law 28 = .ok (.iaload, 1) := by decide +kernel
theorem dL_law_29 : decode cL_law 29 = .ok (.bipush 31, 2) := by decide +kernel
theorem dL_law_31 : decode cL_law 31 = .ok (.iand, 1) := by decide +kernel
theorem dL_law_32 : decode cL_law 32 = .ok (.tableswitch 859 0 28 #[132, 155, 168, 181, 194, 227, 260, 293, 316, 349, 372, 395, 408, 431, 464, 487, 510, 533, 566, 589, 612, 655, 668, 691, 714, 767, 810, 823, 836], 132) := by decide +kernel
theorem dL_law_164 : decode cL_law 164 = .ok (.aload_n 1, 1) := by decide +kernel
theorem dL_law_165 : decode cL_law 165 = .ok (.aload_n 0, 1) := by decide +kernel
theorem dL_law_166 : decode cL_law 166 = .ok (.iload_n 3, 1) := by decide +kernel
theorem dL_law_167 : decode cL_law 167 = .ok (.iconst 1, 1) := by decide +kernel
theorem dL_law_168 : decode cL_law 168 = .ok (.iadd, 1) := by decide +kernel
theorem dL_law_169 : decode cL_law 169 = .ok (.iaload, 1) := by decide +kernel
theorem dL_law_170 : decode cL_law 170 = .ok (.invokevirtual 13, 3) := by decide +kernel
theorem dL_law_173 : decode cL_law 173 = .ok (.aload_n 2, 1) := by decide +kernel
theorem dL_law_174 : decode cL_law 174 = .ok (.aload_n 0, 1) := by decide +kernel
theorem dL_law_175 : decode cL_law 175 = .ok (.iload_n 3, 1) := by decide +kernel
theorem dL_law_176 : decode cL_law 176 = .ok (.iconst 1, 1) := by decide +kernel
theorem dL_law_177 : decode cL_law 177 = .ok (.iadd, 1) := by decide +kernel
theorem dL_law_178 : decode cL_law 178 = .ok (.iaload, 1) := by decide +kernel
theorem dL_law_179 : decode cL_law 179 = .ok (.invokevirtual 17, 3) := by decide +kernel
theorem dL_law_182 : decode cL_law 182 = .ok (.if_icmp .eq 709, 3) := by decide +kernel
theorem dL_law_185 : decode cL_law 185 = .ok (.iconst 0, 1) := by decide +kernel
theorem dL_law_186 : decode cL_law 186 = .ok (.ireturn, 1) := by decide +kernel
theorem dL_law_187 : decode cL_law 187 = .ok (.aload_n 1, 1) := by decide +kernel
theorem dL_law_188 : decode cL_law 188 = .ok (.invokevirtual 18, 3) := by decide +kernel
theorem dL_law_191 : decode cL_law 191 = .ok (.aload_n 2, 1) := by decide +kernel
theorem dL_law_192 : decode cL_law 192 = .ok (.invokevirtual 22, 3) := by decide +kernel
theorem dL_law_195 : decode cL_law 195 = .ok (.if_icmp .eq 696, 3) := by decide +kernel
theorem dL_law_198 : decode cL_law 198 = .ok (.iconst 0, 1) := by decide +kernel
theorem dL_law_199 : decode cL_law 199 = .ok (.ireturn, 1) := by decide +kernel
theorem dL_law_200 : decode cL_law 200 = .ok (.aload_n 1, 1) := by decide +kernel
theorem dL_law_201 : decode cL_law 201 = .ok (.invokevirtual 23, 3) := by decide +kernel
theorem dL_law_204 : decode cL_law 204 = .ok (.aload_n 2, 1) := by decide +kernel
theorem dL_law_205 : decode cL_law 205 = .ok (.invokevirtual 26, 3) := by decide +kernel
theorem dL_law_208 : decode cL_law 208 = .ok (.if_icmp .eq 683, 3) := by decide +kernel
theorem dL_law_211 : decode cL_law 211 = .ok (.iconst 0, 1) := by decide +kernel
theorem dL_law_212 : decode cL_law 212 = .ok (.ireturn, 1) := by decide +kernel
theorem dL_law_213 : decode cL_law 213 = .ok (.aload_n 1, 1) := by decide +kernel
theorem dL_law_214 : decode cL_law 214 = .ok (.invokevirtual 27, 3) := by decide +kernel
theorem dL_law_217 : decode cL_law 217 = .ok (.aload_n 2, 1) := by decide +kernel
theorem dL_law_218 : decode cL_law 218 = .ok (.invokevirtual 30, 3) := by decide +kernel
theorem dL_law_221 : decode cL_law 221 = .ok (.if_icmp .eq 670, 3) := by decide +kernel
theorem dL_law_224 : decode cL_law 224 = .ok (.iconst 0, 1) := by decide +kernel
theorem dL_law_225 : decode cL_law 225 = .ok (.ireturn, 1) := by decide +kernel
theorem dL_law_226 : decode cL_law 226 = .ok (.aload_n 1, 1) := by decide +kernel
theorem dL_law_227 : decode cL_law 227 = .ok (.aload_n 0, 1) := by decide +kernel
theorem dL_law_228 : decode cL_law 228 = .ok (.iload_n 3, 1) := by decide +kernel
theorem dL_law_229 : decode cL_law 229 = .ok (.iconst 1, 1) := by decide +kernel
theorem dL_law_230 : decode cL_law 230 = .ok (.iadd, 1) := by decide +kernel
theorem dL_law_231 : decode cL_law 231 = .ok (.iaload, 1) := by decide +kernel
theorem dL_law_232 : decode cL_law 232 = .ok (.aload_n 0, 1) := by decide +kernel
theorem dL_law_233 : decode cL_law 233 = .ok (.iload_n 3, 1) := by decide +kernel
theorem dL_law_234 : decode cL_law 234 = .ok (.iconst 2, 1) := by decide +kernel
theorem dL_law_235 : decode cL_law 235 = .ok (.iadd, 1) := by decide +kernel
theorem dL_law_236 : decode cL_law 236 = .ok (.iaload, 1) := by decide +kernel
theorem dL_law_237 : decode cL_law 237 = .ok (.invokevirtual 31, 3) := by decide +kernel
theorem dL_law_240 : decode cL_law 240 = .ok (.aload_n 2, 1) := by decide +kernel
theorem dL_law_241 : decode cL_law 241 = .ok (.aload_n 0, 1) := by decide +kernel
theorem dL_law_242 : decode cL_law 242 = .ok (.iload_n 3, 1) := by decide +kernel
theorem dL_law_243 : decode cL_law 243 = .ok (.iconst 1, 1) := by decide +kernel
theorem dL_law_244 : decode cL_law 244 = .ok (.iadd, 1) := by decide +kernel
theorem dL_law_245 : decode cL_law 245 = .ok (.iaload, 1) := by decide +kernel
theorem dL_law_246 : decode cL_law 246 = .ok (.aload_n 0, 1) := by decide +kernel
theorem dL_law_247 : decode cL_law 247 = .ok (.iload_n 3, 1) := by decide +kernel
theorem dL_law_248 : decode cL_law 248 = .ok (.iconst 2, 1) := by decide +kernel
theorem dL_law_249 : decode cL_law 249 = .ok (.iadd, 1) := by decide +kernel
theorem dL_law_250 : decode cL_law 250 = .ok (.iaload, 1) := by decide +kernel
theorem dL_law_251 : decode cL_law 251 = .ok (.invokevirtual 35, 3) := by decide +kernel
theorem dL_law_254 : decode cL_law 254 = .ok (.if_icmp .eq 637, 3) := by decide +kernel
theorem dL_law_257 : decode cL_law 257 = .ok (.iconst 0, 1) := by decide +kernel
theorem dL_law_258 : decode cL_law 258 = .ok (.ireturn, 1) := by decide +kernel
theorem dL_law_259 : decode cL_law 259 = .ok (.aload_n 1, 1) := by decide +kernel
theorem dL_law_260 : decode cL_law 260 = .ok (.aload_n 0, 1) := by decide +kernel
theorem dL_law_261 : decode cL_law 261 = .ok (.iload_n 3, 1) := by decide +kernel
theorem dL_law_262 : decode cL_law 262 = .ok (.iconst 1, 1) := by decide +kernel
theorem dL_law_263 : decode cL_law 263 = .ok (.iadd, 1) := by decide +kernel
theorem dL_law_264 : decode cL_law 264 = .ok (.iaload, 1) := by decide +kernel
theorem dL_law_265 : decode cL_law 265 = .ok (.aload_n 0, 1) := by decide +kernel
theorem dL_law_266 : decode cL_law 266 = .ok (.iload_n 3, 1) := by decide +kernel
theorem dL_law_267 : decode cL_law 267 = .ok (.iconst 2, 1) := by decide +kernel
theorem dL_law_268 : decode cL_law 268 = .ok (.iadd, 1) := by decide +kernel
theorem dL_law_269 : decode cL_law 269 = .ok (.iaload, 1) := by decide +kernel
theorem dL_law_270 : decode cL_law 270 = .ok (.invokevirtual 36, 3) := by decide +kernel
theorem dL_law_273 : decode cL_law 273 = .ok (.aload_n 2, 1) := by decide +kernel
theorem dL_law_274 : decode cL_law 274 = .ok (.aload_n 0, 1) := by decide +kernel
theorem dL_law_275 : decode cL_law 275 = .ok (.iload_n 3, 1) := by decide +kernel
theorem dL_law_276 : decode cL_law 276 = .ok (.iconst 1, 1) := by decide +kernel
theorem dL_law_277 : decode cL_law 277 = .ok (.iadd, 1) := by decide +kernel
theorem dL_law_278 : decode cL_law 278 = .ok (.iaload, 1) := by decide +kernel
theorem dL_law_279 : decode cL_law 279 = .ok (.aload_n 0, 1) := by decide +kernel
theorem dL_law_280 : decode cL_law 280 = .ok (.iload_n 3, 1) := by decide +kernel
theorem dL_law_281 : decode cL_law 281 = .ok (.iconst 2, 1) := by decide +kernel
theorem dL_law_282 : decode cL_law 282 = .ok (.iadd, 1) := by decide +kernel
theorem dL_law_283 : decode cL_law 283 = .ok (.iaload, 1) := by decide +kernel
theorem dL_law_284 : decode cL_law 284 = .ok (.invokevirtual 39, 3) := by decide +kernel
theorem dL_law_287 : decode cL_law 287 = .ok (.if_icmp .eq 604, 3) := by decide +kernel
theorem dL_law_290 : decode cL_law 290 = .ok (.iconst 0, 1) := by decide +kernel
theorem dL_law_291 : decode cL_law 291 = .ok (.ireturn, 1) := by decide +kernel
theorem dL_law_292 : decode cL_law 292 = .ok (.aload_n 1, 1) := by decide +kernel
theorem dL_law_293 : decode cL_law 293 = .ok (.aload_n 0, 1) := by decide +kernel
theorem dL_law_294 : decode cL_law 294 = .ok (.iload_n 3, 1) := by decide +kernel
theorem dL_law_295 : decode cL_law 295 = .ok (.iconst 1, 1) := by decide +kernel
theorem dL_law_296 : decode cL_law 296 = .ok (.iadd, 1) := by decide +kernel
theorem dL_law_297 : decode cL_law 297 = .ok (.iaload, 1) := by decide +kernel
theorem dL_law_298 : decode cL_law 298 = .ok (.aload_n 0, 1) := by decide +kernel
theorem dL_law_299 : decode cL_law 299 = .ok (.iload_n 3, 1) := by decide +kernel
theorem dL_law_300 : decode cL_law 300 = .ok (.iconst 2, 1) := by decide +kernel
theorem dL_law_301 : decode cL_law 301 = .ok (.iadd, 1) := by decide +kernel
theorem dL_law_302 : decode cL_law 302 = .ok (.iaload, 1) := by decide +kernel
theorem dL_law_303 : decode cL_law 303 = .ok (.invokevirtual 40, 3) := by decide +kernel
theorem dL_law_306 : decode cL_law 306 = .ok (.aload_n 2, 1) := by decide +kernel
theorem dL_law_307 : decode cL_law 307 = .ok (.aload_n 0, 1) := by decide +kernel
theorem dL_law_308 : decode cL_law 308 = .ok (.iload_n 3, 1) := by decide +kernel
theorem dL_law_309 : decode cL_law 309 = .ok (.iconst 1, 1) := by decide +kernel
theorem dL_law_310 : decode cL_law 310 = .ok (.iadd, 1) := by decide +kernel
theorem dL_law_311 : decode cL_law 311 = .ok (.iaload, 1) := by decide +kernel
theorem dL_law_312 : decode cL_law 312 = .ok (.aload_n 0, 1) := by decide +kernel
theorem dL_law_313 : decode cL_law 313 = .ok (.iload_n 3, 1) := by decide +kernel
theorem dL_law_314 : decode cL_law 314 = .ok (.iconst 2, 1) := by decide +kernel
theorem dL_law_315 : decode cL_law 315 = .ok (.iadd, 1) := by decide +kernel
theorem dL_law_316 : decode cL_law 316 = .ok (.iaload, 1) := by decide +kernel
theorem dL_law_317 : decode cL_law 317 = .ok (.invokevirtual 43, 3) := by decide +kernel
theorem dL_law_320 : decode cL_law 320 = .ok (.if_icmp .eq 571, 3) := by decide +kernel
theorem dL_law_323 : decode cL_law 323 = .ok (.iconst 0, 1) := by decide +kernel
theorem dL_law_324 : decode cL_law 324 = .ok (.ireturn, 1) := by decide +kernel
theorem dL_law_325 : decode cL_law 325 = .ok (.aload_n 1, 1) := by decide +kernel
theorem dL_law_326 : decode cL_law 326 = .ok (.aload_n 0, 1) := by decide +kernel
theorem dL_law_327 : decode cL_law 327 = .ok (.iload_n 3, 1) := by decide +kernel
theorem dL_law_328 : decode cL_law 328 = .ok (.iconst 1, 1) := by decide +kernel
theorem dL_law_329 : decode cL_law 329 = .ok (.iadd, 1) := by decide +kernel
theorem dL_law_330 : decode cL_law 330 = .ok (.iaload, 1) := by decide +kernel
theorem dL_law_331 : decode cL_law 331 = .ok (.invokevirtual 44, 3) := by decide +kernel
theorem dL_law_334 : decode cL_law 334 = .ok (.aload_n 2, 1) := by decide +kernel
theorem dL_law_335 : decode cL_law 335 = .ok (.aload_n 0, 1) := by decide +kernel
theorem dL_law_336 : decode cL_law 336 = .ok (.iload_n 3, 1) := by decide +kernel
theorem dL_law_337 : decode cL_law 337 = .ok (.iconst 1, 1) := by decide +kernel
theorem dL_law_338 : decode cL_law 338 = .ok (.iadd, 1) := by decide +kernel
theorem dL_law_339 : decode cL_law 339 = .ok (.iaload, 1) := by decide +kernel
theorem dL_law_340 : decode cL_law 340 = .ok (.invokevirtual 47, 3) := by decide +kernel
theorem dL_law_343 : decode cL_law 343 = .ok (.if_icmp .eq 548, 3) := by decide +kernel
theorem dL_law_346 : decode cL_law 346 = .ok (.iconst 0, 1) := by decide +kernel
theorem dL_law_347 : decode cL_law 347 = .ok (.ireturn, 1) := by decide +kernel
theorem dL_law_348 : decode cL_law 348 = .ok (.aload_n 1, 1) := by decide +kernel
theorem dL_law_349 : decode cL_law 349 = .ok (.aload_n 0, 1) := by decide +kernel
theorem dL_law_350 : decode cL_law 350 = .ok (.iload_n 3, 1) := by decide +kernel
theorem dL_law_351 : decode cL_law 351 = .ok (.iconst 1, 1) := by decide +kernel
theorem dL_law_352 : decode cL_law 352 = .ok (.iadd, 1) := by decide +kernel
theorem dL_law_353 : decode cL_law 353 = .ok (.iaload, 1) := by decide +kernel
theorem dL_law_354 : decode cL_law 354 = .ok (.aload_n 0, 1) := by decide +kernel
theorem dL_law_355 : decode cL_law 355 = .ok (.iload_n 3, 1) := by decide +kernel
theorem dL_law_356 : decode cL_law 356 = .ok (.iconst 2, 1) := by decide +kernel
theorem dL_law_357 : decode cL_law 357 = .ok (.iadd, 1) := by decide +kernel
theorem dL_law_358 : decode cL_law 358 = .ok (.iaload, 1) := by decide +kernel
theorem dL_law_359 : decode cL_law 359 = .ok (.invokevirtual 48, 3) := by decide +kernel
theorem dL_law_362 : decode cL_law 362 = .ok (.aload_n 2, 1) := by decide +kernel
theorem dL_law_363 : decode cL_law 363 = .ok (.aload_n 0, 1) := by decide +kernel
theorem dL_law_364 : decode cL_law 364 = .ok (.iload_n 3, 1) := by decide +kernel
theorem dL_law_365 : decode cL_law 365 = .ok (.iconst 1, 1) := by decide +kernel
theorem dL_law_366 : decode cL_law 366 = .ok (.iadd, 1) := by decide +kernel
theorem dL_law_367 : decode cL_law 367 = .ok (.iaload, 1) := by decide +kernel
theorem dL_law_368 : decode cL_law 368 = .ok (.aload_n 0, 1) := by decide +kernel
theorem dL_law_369 : decode cL_law 369 = .ok (.iload_n 3, 1) := by decide +kernel
theorem dL_law_370 : decode cL_law 370 = .ok (.iconst 2, 1) := by decide +kernel
theorem dL_law_371 : decode cL_law 371 = .ok (.iadd, 1) := by decide +kernel
theorem dL_law_372 : decode cL_law 372 = .ok (.iaload, 1) := by decide +kernel
theorem dL_law_373 : decode cL_law 373 = .ok (.invokevirtual 51, 3) := by decide +kernel
theorem dL_law_376 : decode cL_law 376 = .ok (.if_icmp .eq 515, 3) := by decide +kernel
theorem dL_law_379 : decode cL_law 379 = .ok (.iconst 0, 1) := by decide +kernel
theorem dL_law_380 : decode cL_law 380 = .ok (.ireturn, 1) := by decide +kernel
theorem dL_law_381 : decode cL_law 381 = .ok (.aload_n 1, 1) := by decide +kernel
theorem dL_law_382 : decode cL_law 382 = .ok (.aload_n 0, 1) := by decide +kernel
theorem dL_law_383 : decode cL_law 383 = .ok (.iload_n 3, 1) := by decide +kernel
theorem dL_law_384 : decode cL_law 384 = .ok (.iconst 1, 1) := by decide +kernel
theorem dL_law_385 : decode cL_law 385 = .ok (.iadd, 1) := by decide +kernel
theorem dL_law_386 : decode cL_law 386 = .ok (.iaload, 1) := by decide +kernel
theorem dL_law_387 : decode cL_law 387 = .ok (.invokevirtual 52, 3) := by decide +kernel
theorem dL_law_390 : decode cL_law 390 = .ok (.aload_n 2, 1) := by decide +kernel
theorem dL_law_391 : decode cL_law 391 = .ok (.aload_n 0, 1) := by decide +kernel
theorem dL_law_392 : decode cL_law 392 = .ok (.iload_n 3, 1) := by decide +kernel
theorem dL_law_393 : decode cL_law 393 = .ok (.iconst 1, 1) := by decide +kernel
theorem dL_law_394 : decode cL_law 394 = .ok (.iadd, 1) := by decide +kernel
theorem dL_law_395 : decode cL_law 395 = .ok (.iaload, 1) := by decide +kernel
theorem dL_law_396 : decode cL_law 396 = .ok (.invokevirtual 55, 3) := by decide +kernel
theorem dL_law_399 : decode cL_law 399 = .ok (.if_icmp .eq 492, 3) := by decide +kernel
theorem dL_law_402 : decode cL_law 402 = .ok (.iconst 0, 1) := by decide +kernel
theorem dL_law_403 : decode cL_law 403 = .ok (.ireturn, 1) := by decide +kernel
theorem dL_law_404 : decode cL_law 404 = .ok (.aload_n 1, 1) := by decide +kernel
theorem dL_law_405 : decode cL_law 405 = .ok (.aload_n 0, 1) := by decide +kernel
theorem dL_law_406 : decode cL_law 406 = .ok (.iload_n 3, 1) := by decide +kernel
theorem dL_law_407 : decode cL_law 407 = .ok (.iconst 1, 1) := by decide +kernel
theorem dL_law_408 : decode cL_law 408 = .ok (.iadd, 1) := by decide +kernel
theorem dL_law_409 : decode cL_law 409 = .ok (.iaload, 1) := by decide +kernel
theorem dL_law_410 : decode cL_law 410 = .ok (.invokevirtual 56, 3) := by decide +kernel
theorem dL_law_413 : decode cL_law 413 = .ok (.aload_n 2, 1) := by decide +kernel
theorem dL_law_414 : decode cL_law 414 = .ok (.aload_n 0, 1) := by decide +kernel
theorem dL_law_415 : decode cL_law 415 = .ok (.iload_n 3, 1) := by decide +kernel
theorem dL_law_416 : decode cL_law 416 = .ok (.iconst 1, 1) := by decide +kernel
theorem dL_law_417 : decode cL_law 417 = .ok (.iadd, 1) := by decide +kernel
theorem dL_law_418 : decode cL_law 418 = .ok (.iaload, 1) := by decide +kernel
theorem dL_law_419 : decode cL_law 419 = .ok (.invokevirtual 59, 3) := by decide +kernel
theorem dL_law_422 : decode cL_law 422 = .ok (.if_icmp .eq 469, 3) := by decide +kernel
theorem dL_law_425 : decode cL_law 425 = .ok (.iconst 0, 1) := by decide +kernel
theorem dL_law_426 : decode cL_law 426 = .ok (.ireturn, 1) := by decide +kernel
theorem dL_law_427 : decode cL_law 427 = .ok (.aload_n 1, 1) := by decide +kernel
theorem dL_law_428 : decode cL_law 428 = .ok (.invokevirtual 60, 3) := by decide +kernel
theorem dL_law_431 : decode cL_law 431 = .ok (.aload_n 2, 1) := by decide +kernel
theorem dL_law_432 : decode cL_law 432 = .ok (.invokevirtual 63, 3) := by decide +kernel
theorem dL_law_435 : decode cL_law 435 = .ok (.if_icmp .eq 456, 3) := by decide +kernel
theorem dL_law_438 : decode cL_law 438 = .ok (.iconst 0, 1) := by decide +kernel
theorem dL_law_439 : decode cL_law 439 = .ok (.ireturn, 1) := by decide +kernel
theorem dL_law_440 : decode cL_law 440 = .ok (.aload_n 1, 1) := by decide +kernel
theorem dL_law_441 : decode cL_law 441 = .ok (.aload_n 0, 1) := by decide +kernel
theorem dL_law_442 : decode cL_law 442 = .ok (.iload_n 3, 1) := by decide +kernel
theorem dL_law_443 : decode cL_law 443 = .ok (.iconst 1, 1) := by decide +kernel
theorem dL_law_444 : decode cL_law 444 = .ok (.iadd, 1) := by decide +kernel
theorem dL_law_445 : decode cL_law 445 = .ok (.iaload, 1) := by decide +kernel
theorem dL_law_446 : decode cL_law 446 = .ok (.invokevirtual 64, 3) := by decide +kernel
theorem dL_law_449 : decode cL_law 449 = .ok (.aload_n 2, 1) := by decide +kernel
theorem dL_law_450 : decode cL_law 450 = .ok (.aload_n 0, 1) := by decide +kernel
theorem dL_law_451 : decode cL_law 451 = .ok (.iload_n 3, 1) := by decide +kernel
theorem dL_law_452 : decode cL_law 452 = .ok (.iconst 1, 1) := by decide +kernel
theorem dL_law_453 : decode cL_law 453 = .ok (.iadd, 1) := by decide +kernel
theorem dL_law_454 : decode cL_law 454 = .ok (.iaload, 1) := by decide +kernel
theorem dL_law_455 : decode cL_law 455 = .ok (.invokevirtual 67, 3) := by decide +kernel
theorem dL_law_458 : decode cL_law 458 = .ok (.if_icmp .eq 433, 3) := by decide +kernel
theorem dL_law_461 : decode cL_law 461 = .ok (.iconst 0, 1) := by decide +kernel
theorem dL_law_462 : decode cL_law 462 = .ok (.ireturn, 1) := by decide +kernel
theorem dL_law_463 : decode cL_law 463 = .ok (.aload_n 1, 1) := by decide +kernel
theorem dL_law_464 : decode cL_law 464 = .ok (.aload_n 0, 1) := by decide +kernel
theorem dL_law_465 : decode cL_law 465 = .ok (.iload_n 3, 1) := by decide +kernel
theorem dL_law_466 : decode cL_law 466 = .ok (.iconst 1, 1) := by decide +kernel
theorem dL_law_467 : decode cL_law 467 = .ok (.iadd, 1) := by decide +kernel
theorem dL_law_468 : decode cL_law 468 = .ok (.iaload, 1) := by decide +kernel
theorem dL_law_469 : decode cL_law 469 = .ok (.aload_n 0, 1) := by decide +kernel
theorem dL_law_470 : decode cL_law 470 = .ok (.iload_n 3, 1) := by decide +kernel
theorem dL_law_471 : decode cL_law 471 = .ok (.iconst 2, 1) := by decide +kernel
theorem dL_law_472 : decode cL_law 472 = .ok (.iadd, 1) := by decide +kernel
theorem dL_law_473 : decode cL_law 473 = .ok (.iaload, 1) := by decide +kernel
theorem dL_law_474 : decode cL_law 474 = .ok (.invokevirtual 68, 3) := by decide +kernel
theorem dL_law_477 : decode cL_law 477 = .ok (.aload_n 2, 1) := by decide +kernel
theorem dL_law_478 : decode cL_law 478 = .ok (.aload_n 0, 1) := by decide +kernel
theorem dL_law_479 : decode cL_law 479 = .ok (.iload_n 3, 1) := by decide +kernel
theorem dL_law_480 : decode cL_law 480 = .ok (.iconst 1, 1) := by decide +kernel
theorem dL_law_481 : decode cL_law 481 = .ok (.iadd, 1) := by decide +kernel
theorem dL_law_482 : decode cL_law 482 = .ok (.iaload, 1) := by decide +kernel
theorem dL_law_483 : decode cL_law 483 = .ok (.aload_n 0, 1) := by decide +kernel
theorem dL_law_484 : decode cL_law 484 = .ok (.iload_n 3, 1) := by decide +kernel
theorem dL_law_485 : decode cL_law 485 = .ok (.iconst 2, 1) := by decide +kernel
theorem dL_law_486 : decode cL_law 486 = .ok (.iadd, 1) := by decide +kernel
theorem dL_law_487 : decode cL_law 487 = .ok (.iaload, 1) := by decide +kernel
theorem dL_law_488 : decode cL_law 488 = .ok (.invokevirtual 71, 3) := by decide +kernel
theorem dL_law_491 : decode cL_law 491 = .ok (.if_icmp .eq 400, 3) := by decide +kernel
theorem dL_law_494 : decode cL_law 494 = .ok (.iconst 0, 1) := by decide +kernel
theorem dL_law_495 : decode cL_law 495 = .ok (.ireturn, 1) := by decide +kernel
theorem dL_law_496 : decode cL_law 496 = .ok (.aload_n 1, 1) := by decide +kernel
theorem dL_law_497 : decode cL_law 497 = .ok (.aload_n 0, 1) := by decide +kernel
theorem dL_law_498 : decode cL_law 498 = .ok (.iload_n 3, 1) := by decide +kernel
theorem dL_law_499 : decode cL_law 499 = .ok (.iconst 1, 1) := by decide +kernel
theorem dL_law_500 : decode cL_law 500 = .ok (.iadd, 1) := by decide +kernel
theorem dL_law_501 : decode cL_law 501 = .ok (.iaload, 1) := by decide +kernel
theorem dL_law_502 : decode cL_law 502 = .ok (.invokevirtual 72, 3) := by decide +kernel
theorem dL_law_505 : decode cL_law 505 = .ok (.aload_n 2, 1) := by decide +kernel
theorem dL_law_506 : decode cL_law 506 = .ok (.aload_n 0, 1) := by decide +kernel
theorem dL_law_507 : decode cL_law 507 = .ok (.iload_n 3, 1) := by decide +kernel
theorem dL_law_508 : decode cL_law 508 = .ok (.iconst 1, 1) := by decide +kernel
theorem dL_law_509 : decode cL_law 509 = .ok (.iadd, 1) := by decide +kernel
theorem dL_law_510 : decode cL_law 510 = .ok (.iaload, 1) := by decide +kernel
theorem dL_law_511 : decode cL_law 511 = .ok (.invokevirtual 75, 3) := by decide +kernel
theorem dL_law_514 : decode cL_law 514 = .ok (.if_icmp .eq 377, 3) := by decide +kernel
theorem dL_law_517 : decode cL_law 517 = .ok (.iconst 0, 1) := by decide +kernel
theorem dL_law_518 : decode cL_law 518 = .ok (.ireturn, 1) := by decide +kernel
theorem dL_law_519 : decode cL_law 519 = .ok (.aload_n 1, 1) := by decide +kernel
theorem dL_law_520 : decode cL_law 520 = .ok (.aload_n 0, 1) := by decide +kernel
theorem dL_law_521 : decode cL_law 521 = .ok (.iload_n 3, 1) := by decide +kernel
theorem dL_law_522 : decode cL_law 522 = .ok (.iconst 1, 1) := by decide +kernel
theorem dL_law_523 : decode cL_law 523 = .ok (.iadd, 1) := by decide +kernel
theorem dL_law_524 : decode cL_law 524 = .ok (.iaload, 1) := by decide +kernel
theorem dL_law_525 : decode cL_law 525 = .ok (.invokevirtual 76, 3) := by decide +kernel
theorem dL_law_528 : decode cL_law 528 = .ok (.aload_n 2, 1) := by decide +kernel
theorem dL_law_529 : decode cL_law 529 = .ok (.aload_n 0, 1) := by decide +kernel
theorem dL_law_530 : decode cL_law 530 = .ok (.iload_n 3, 1) := by decide +kernel
theorem dL_law_531 : decode cL_law 531 = .ok (.iconst 1, 1) := by decide +kernel
theorem dL_law_532 : decode cL_law 532 = .ok (.iadd, 1) := by decide +kernel
theorem dL_law_533 : decode cL_law 533 = .ok (.iaload, 1) := by decide +kernel
theorem dL_law_534 : decode cL_law 534 = .ok (.invokevirtual 79, 3) := by decide +kernel
theorem dL_law_537 : decode cL_law 537 = .ok (.if_icmp .eq 354, 3) := by decide +kernel
theorem dL_law_540 : decode cL_law 540 = .ok (.iconst 0, 1) := by decide +kernel
theorem dL_law_541 : decode cL_law 541 = .ok (.ireturn, 1) := by decide +kernel
theorem dL_law_542 : decode cL_law 542 = .ok (.aload_n 1, 1) := by decide +kernel
theorem dL_law_543 : decode cL_law 543 = .ok (.aload_n 0, 1) := by decide +kernel
theorem dL_law_544 : decode cL_law 544 = .ok (.iload_n 3, 1) := by decide +kernel
theorem dL_law_545 : decode cL_law 545 = .ok (.iconst 1, 1) := by decide +kernel
theorem dL_law_546 : decode cL_law 546 = .ok (.iadd, 1) := by decide +kernel
theorem dL_law_547 : decode cL_law 547 = .ok (.iaload, 1) := by decide +kernel
theorem dL_law_548 : decode cL_law 548 = .ok (.invokevirtual 80, 3) := by decide +kernel
theorem dL_law_551 : decode cL_law 551 = .ok (.aload_n 2, 1) := by decide +kernel
theorem dL_law_552 : decode cL_law 552 = .ok (.aload_n 0, 1) := by decide +kernel
theorem dL_law_553 : decode cL_law 553 = .ok (.iload_n 3, 1) := by decide +kernel
theorem dL_law_554 : decode cL_law 554 = .ok (.iconst 1, 1) := by decide +kernel
theorem dL_law_555 : decode cL_law 555 = .ok (.iadd, 1) := by decide +kernel
theorem dL_law_556 : decode cL_law 556 = .ok (.iaload, 1) := by decide +kernel
theorem dL_law_557 : decode cL_law 557 = .ok (.invokevirtual 83, 3) := by decide +kernel
theorem dL_law_560 : decode cL_law 560 = .ok (.if_icmp .eq 331, 3) := by decide +kernel
theorem dL_law_563 : decode cL_law 563 = .ok (.iconst 0, 1) := by decide +kernel
theorem dL_law_564 : decode cL_law 564 = .ok (.ireturn, 1) := by decide +kernel
theorem dL_law_565 : decode cL_law 565 = .ok (.aload_n 1, 1) := by decide +kernel
theorem dL_law_566 : decode cL_law 566 = .ok (.aload_n 0, 1) := by decide +kernel
theorem dL_law_567 : decode cL_law 567 = .ok (.iload_n 3, 1) := by decide +kernel
theorem dL_law_568 : decode cL_law 568 = .ok (.iconst 1, 1) := by decide +kernel
theorem dL_law_569 : decode cL_law 569 = .ok (.iadd, 1) := by decide +kernel
theorem dL_law_570 : decode cL_law 570 = .ok (.iaload, 1) := by decide +kernel
theorem dL_law_571 : decode cL_law 571 = .ok (.aload_n 0, 1) := by decide +kernel
theorem dL_law_572 : decode cL_law 572 = .ok (.iload_n 3, 1) := by decide +kernel
theorem dL_law_573 : decode cL_law 573 = .ok (.iconst 2, 1) := by decide +kernel
theorem dL_law_574 : decode cL_law 574 = .ok (.iadd, 1) := by decide +kernel
theorem dL_law_575 : decode cL_law 575 = .ok (.iaload, 1) := by decide +kernel
theorem dL_law_576 : decode cL_law 576 = .ok (.invokevirtual 84, 3) := by decide +kernel
theorem dL_law_579 : decode cL_law 579 = .ok (.aload_n 2, 1) := by decide +kernel
theorem dL_law_580 : decode cL_law 580 = .ok (.aload_n 0, 1) := by decide +kernel
theorem dL_law_581 : decode cL_law 581 = .ok (.iload_n 3, 1) := by decide +kernel
theorem dL_law_582 : decode cL_law 582 = .ok (.iconst 1, 1) := by decide +kernel
theorem dL_law_583 : decode cL_law 583 = .ok (.iadd, 1) := by decide +kernel
theorem dL_law_584 : decode cL_law 584 = .ok (.iaload, 1) := by decide +kernel
theorem dL_law_585 : decode cL_law 585 = .ok (.aload_n 0, 1) := by decide +kernel
theorem dL_law_586 : decode cL_law 586 = .ok (.iload_n 3, 1) := by decide +kernel
theorem dL_law_587 : decode cL_law 587 = .ok (.iconst 2, 1) := by decide +kernel
theorem dL_law_588 : decode cL_law 588 = .ok (.iadd, 1) := by decide +kernel
theorem dL_law_589 : decode cL_law 589 = .ok (.iaload, 1) := by decide +kernel
theorem dL_law_590 : decode cL_law 590 = .ok (.invokevirtual 87, 3) := by decide +kernel
theorem dL_law_593 : decode cL_law 593 = .ok (.if_icmp .eq 298, 3) := by decide +kernel
theorem dL_law_596 : decode cL_law 596 = .ok (.iconst 0, 1) := by decide +kernel
theorem dL_law_597 : decode cL_law 597 = .ok (.ireturn, 1) := by decide +kernel
theorem dL_law_598 : decode cL_law 598 = .ok (.aload_n 1, 1) := by decide +kernel
theorem dL_law_599 : decode cL_law 599 = .ok (.aload_n 0, 1) := by decide +kernel
theorem dL_law_600 : decode cL_law 600 = .ok (.iload_n 3, 1) := by decide +kernel
theorem dL_law_601 : decode cL_law 601 = .ok (.iconst 1, 1) := by decide +kernel
theorem dL_law_602 : decode cL_law 602 = .ok (.iadd, 1) := by decide +kernel
theorem dL_law_603 : decode cL_law 603 = .ok (.iaload, 1) := by decide +kernel
theorem dL_law_604 : decode cL_law 604 = .ok (.invokevirtual 88, 3) := by decide +kernel
theorem dL_law_607 : decode cL_law 607 = .ok (.aload_n 2, 1) := by decide +kernel
theorem dL_law_608 : decode cL_law 608 = .ok (.aload_n 0, 1) := by decide +kernel
theorem dL_law_609 : decode cL_law 609 = .ok (.iload_n 3, 1) := by decide +kernel
theorem dL_law_610 : decode cL_law 610 = .ok (.iconst 1, 1) := by decide +kernel
theorem dL_law_611 : decode cL_law 611 = .ok (.iadd, 1) := by decide +kernel
theorem dL_law_612 : decode cL_law 612 = .ok (.iaload, 1) := by decide +kernel
theorem dL_law_613 : decode cL_law 613 = .ok (.invokevirtual 91, 3) := by decide +kernel
theorem dL_law_616 : decode cL_law 616 = .ok (.if_icmp .eq 275, 3) := by decide +kernel
theorem dL_law_619 : decode cL_law 619 = .ok (.iconst 0, 1) := by decide +kernel
theorem dL_law_620 : decode cL_law 620 = .ok (.ireturn, 1) := by decide +kernel
theorem dL_law_621 : decode cL_law 621 = .ok (.aload_n 1, 1) := by decide +kernel
theorem dL_law_622 : decode cL_law 622 = .ok (.aload_n 0, 1) := by decide +kernel
theorem dL_law_623 : decode cL_law 623 = .ok (.iload_n 3, 1) := by decide +kernel
theorem dL_law_624 : decode cL_law 624 = .ok (.iconst 1, 1) := by decide +kernel
theorem dL_law_625 : decode cL_law 625 = .ok (.iadd, 1) := by decide +kernel
theorem dL_law_626 : decode cL_law 626 = .ok (.iaload, 1) := by decide +kernel
theorem dL_law_627 : decode cL_law 627 = .ok (.invokevirtual 92, 3) := by decide +kernel
theorem dL_law_630 : decode cL_law 630 = .ok (.aload_n 2, 1) := by decide +kernel
theorem dL_law_631 : decode cL_law 631 = .ok (.aload_n 0, 1) := by decide +kernel
theorem dL_law_632 : decode cL_law 632 = .ok (.iload_n 3, 1) := by decide +kernel
theorem dL_law_633 : decode cL_law 633 = .ok (.iconst 1, 1) := by decide +kernel
theorem dL_law_634 : decode cL_law 634 = .ok (.iadd, 1) := by decide +kernel
theorem dL_law_635 : decode cL_law 635 = .ok (.iaload, 1) := by decide +kernel
theorem dL_law_636 : decode cL_law 636 = .ok (.invokevirtual 95, 3) := by decide +kernel
theorem dL_law_639 : decode cL_law 639 = .ok (.if_icmp .eq 252, 3) := by decide +kernel
theorem dL_law_642 : decode cL_law 642 = .ok (.iconst 0, 1) := by decide +kernel
theorem dL_law_643 : decode cL_law 643 = .ok (.ireturn, 1) := by decide +kernel
theorem dL_law_644 : decode cL_law 644 = .ok (.aload_n 1, 1) := by decide +kernel
theorem dL_law_645 : decode cL_law 645 = .ok (.aload_n 0, 1) := by decide +kernel
theorem dL_law_646 : decode cL_law 646 = .ok (.iload_n 3, 1) := by decide +kernel
theorem dL_law_647 : decode cL_law 647 = .ok (.iconst 1, 1) := by decide +kernel
theorem dL_law_648 : decode cL_law 648 = .ok (.iadd, 1) := by decide +kernel
theorem dL_law_649 : decode cL_law 649 = .ok (.iaload, 1) := by decide +kernel
theorem dL_law_650 : decode cL_law 650 = .ok (.aload_n 0, 1) := by decide +kernel
theorem dL_law_651 : decode cL_law 651 = .ok (.iload_n 3, 1) := by decide +kernel
theorem dL_law_652 : decode cL_law 652 = .ok (.iconst 2, 1) := by decide +kernel
theorem dL_law_653 : decode cL_law 653 = .ok (.iadd, 1) := by decide +kernel
theorem dL_law_654 : decode cL_law 654 = .ok (.iaload, 1) := by decide +kernel
theorem dL_law_655 : decode cL_law 655 = .ok (.aload_n 0, 1) := by decide +kernel
theorem dL_law_656 : decode cL_law 656 = .ok (.iload_n 3, 1) := by decide +kernel
theorem dL_law_657 : decode cL_law 657 = .ok (.iconst 3, 1) := by decide +kernel
theorem dL_law_658 : decode cL_law 658 = .ok (.iadd, 1) := by decide +kernel
theorem dL_law_659 : decode cL_law 659 = .ok (.iaload, 1) := by decide +kernel
theorem dL_law_660 : decode cL_law 660 = .ok (.invokevirtual 96, 3) := by decide +kernel
theorem dL_law_663 : decode cL_law 663 = .ok (.aload_n 2, 1) := by decide +kernel
theorem dL_law_664 : decode cL_law 664 = .ok (.aload_n 0, 1) := by decide +kernel
theorem dL_law_665 : decode cL_law 665 = .ok (.iload_n 3, 1) := by decide +kernel
theorem dL_law_666 : decode cL_law 666 = .ok (.iconst 1, 1) := by decide +kernel
theorem dL_law_667 : decode cL_law 667 = .ok (.iadd, 1) := by decide +kernel
theorem dL_law_668 : decode cL_law 668 = .ok (.iaload, 1) := by decide +kernel
theorem dL_law_669 : decode cL_law 669 = .ok (.aload_n 0, 1) := by decide +kernel
theorem dL_law_670 : decode cL_law 670 = .ok (.iload_n 3, 1) := by decide +kernel
theorem dL_law_671 : decode cL_law 671 = .ok (.iconst 2, 1) := by decide +kernel
theorem dL_law_672 : decode cL_law 672 = .ok (.iadd, 1) := by decide +kernel
theorem dL_law_673 : decode cL_law 673 = .ok (.iaload, 1) := by decide +kernel
theorem dL_law_674 : decode cL_law 674 = .ok (.aload_n 0, 1) := by decide +kernel
theorem dL_law_675 : decode cL_law 675 = .ok (.iload_n 3, 1) := by decide +kernel
theorem dL_law_676 : decode cL_law 676 = .ok (.iconst 3, 1) := by decide +kernel
theorem dL_law_677 : decode cL_law 677 = .ok (.iadd, 1) := by decide +kernel
theorem dL_law_678 : decode cL_law 678 = .ok (.iaload, 1) := by decide +kernel
theorem dL_law_679 : decode cL_law 679 = .ok (.invokevirtual 100, 3) := by decide +kernel
theorem dL_law_682 : decode cL_law 682 = .ok (.if_icmp .eq 209, 3) := by decide +kernel
theorem dL_law_685 : decode cL_law 685 = .ok (.iconst 0, 1) := by decide +kernel
theorem dL_law_686 : decode cL_law 686 = .ok (.ireturn, 1) := by decide +kernel
theorem dL_law_687 : decode cL_law 687 = .ok (.aload_n 1, 1) := by decide +kernel
theorem dL_law_688 : decode cL_law 688 = .ok (.invokevirtual 101, 3) := by decide +kernel
theorem dL_law_691 : decode cL_law 691 = .ok (.aload_n 2, 1) := by decide +kernel
theorem dL_law_692 : decode cL_law 692 = .ok (.invokevirtual 104, 3) := by decide +kernel
theorem dL_law_695 : decode cL_law 695 = .ok (.if_icmp .eq 196, 3) := by decide +kernel
theorem dL_law_698 : decode cL_law 698 = .ok (.iconst 0, 1) := by decide +kernel
theorem dL_law_699 : decode cL_law 699 = .ok (.ireturn, 1) := by decide +kernel
theorem dL_law_700 : decode cL_law 700 = .ok (.aload_n 1, 1) := by decide +kernel
theorem dL_law_701 : decode cL_law 701 = .ok (.aload_n 0, 1) := by decide +kernel
theorem dL_law_702 : decode cL_law 702 = .ok (.iload_n 3, 1) := by decide +kernel
theorem dL_law_703 : decode cL_law 703 = .ok (.iconst 1, 1) := by decide +kernel
theorem dL_law_704 : decode cL_law 704 = .ok (.iadd, 1) := by decide +kernel
theorem dL_law_705 : decode cL_law 705 = .ok (.iaload, 1) := by decide +kernel
theorem dL_law_706 : decode cL_law 706 = .ok (.invokevirtual 105, 3) := by decide +kernel
theorem dL_law_709 : decode cL_law 709 = .ok (.aload_n 2, 1) := by decide +kernel
theorem dL_law_710 : decode cL_law 710 = .ok (.aload_n 0, 1) := by decide +kernel
theorem dL_law_711 : decode cL_law 711 = .ok (.iload_n 3, 1) := by decide +kernel
theorem dL_law_712 : decode cL_law 712 = .ok (.iconst 1, 1) := by decide +kernel
theorem dL_law_713 : decode cL_law 713 = .ok (.iadd, 1) := by decide +kernel
theorem dL_law_714 : decode cL_law 714 = .ok (.iaload, 1) := by decide +kernel
theorem dL_law_715 : decode cL_law 715 = .ok (.invokevirtual 108, 3) := by decide +kernel
theorem dL_law_718 : decode cL_law 718 = .ok (.if_icmp .eq 173, 3) := by decide +kernel
theorem dL_law_721 : decode cL_law 721 = .ok (.iconst 0, 1) := by decide +kernel
theorem dL_law_722 : decode cL_law 722 = .ok (.ireturn, 1) := by decide +kernel
theorem dL_law_723 : decode cL_law 723 = .ok (.aload_n 1, 1) := by decide +kernel
theorem dL_law_724 : decode cL_law 724 = .ok (.aload_n 0, 1) := by decide +kernel
theorem dL_law_725 : decode cL_law 725 = .ok (.iload_n 3, 1) := by decide +kernel
theorem dL_law_726 : decode cL_law 726 = .ok (.iconst 1, 1) := by decide +kernel
theorem dL_law_727 : decode cL_law 727 = .ok (.iadd, 1) := by decide +kernel
theorem dL_law_728 : decode cL_law 728 = .ok (.iaload, 1) := by decide +kernel
theorem dL_law_729 : decode cL_law 729 = .ok (.invokevirtual 109, 3) := by decide +kernel
theorem dL_law_732 : decode cL_law 732 = .ok (.aload_n 2, 1) := by decide +kernel
theorem dL_law_733 : decode cL_law 733 = .ok (.aload_n 0, 1) := by decide +kernel
theorem dL_law_734 : decode cL_law 734 = .ok (.iload_n 3, 1) := by decide +kernel
theorem dL_law_735 : decode cL_law 735 = .ok (.iconst 1, 1) := by decide +kernel
theorem dL_law_736 : decode cL_law 736 = .ok (.iadd, 1) := by decide +kernel
theorem dL_law_737 : decode cL_law 737 = .ok (.iaload, 1) := by decide +kernel
theorem dL_law_738 : decode cL_law 738 = .ok (.invokevirtual 112, 3) := by decide +kernel
theorem dL_law_741 : decode cL_law 741 = .ok (.if_icmp .eq 150, 3) := by decide +kernel
theorem dL_law_744 : decode cL_law 744 = .ok (.iconst 0, 1) := by decide +kernel
theorem dL_law_745 : decode cL_law 745 = .ok (.ireturn, 1) := by decide +kernel
theorem dL_law_746 : decode cL_law 746 = .ok (.aload_n 1, 1) := by decide +kernel
theorem dL_law_747 : decode cL_law 747 = .ok (.aload_n 0, 1) := by decide +kernel
theorem dL_law_748 : decode cL_law 748 = .ok (.iload_n 3, 1) := by decide +kernel
theorem dL_law_749 : decode cL_law 749 = .ok (.iconst 1, 1) := by decide +kernel
theorem dL_law_750 : decode cL_law 750 = .ok (.iadd, 1) := by decide +kernel
theorem dL_law_751 : decode cL_law 751 = .ok (.iaload, 1) := by decide +kernel
theorem dL_law_752 : decode cL_law 752 = .ok (.aload_n 0, 1) := by decide +kernel
theorem dL_law_753 : decode cL_law 753 = .ok (.iload_n 3, 1) := by decide +kernel
theorem dL_law_754 : decode cL_law 754 = .ok (.iconst 2, 1) := by decide +kernel
theorem dL_law_755 : decode cL_law 755 = .ok (.iadd, 1) := by decide +kernel
theorem dL_law_756 : decode cL_law 756 = .ok (.iaload, 1) := by decide +kernel
theorem dL_law_757 : decode cL_law 757 = .ok (.aload_n 0, 1) := by decide +kernel
theorem dL_law_758 : decode cL_law 758 = .ok (.iload_n 3, 1) := by decide +kernel
theorem dL_law_759 : decode cL_law 759 = .ok (.iconst 3, 1) := by decide +kernel
theorem dL_law_760 : decode cL_law 760 = .ok (.iadd, 1) := by decide +kernel
theorem dL_law_761 : decode cL_law 761 = .ok (.iaload, 1) := by decide +kernel
theorem dL_law_762 : decode cL_law 762 = .ok (.aload_n 0, 1) := by decide +kernel
theorem dL_law_763 : decode cL_law 763 = .ok (.iload_n 3, 1) := by decide +kernel
theorem dL_law_764 : decode cL_law 764 = .ok (.iconst 4, 1) := by decide +kernel
theorem dL_law_765 : decode cL_law 765 = .ok (.iadd, 1) := by decide +kernel
theorem dL_law_766 : decode cL_law 766 = .ok (.iaload, 1) := by decide +kernel
theorem dL_law_767 : decode cL_law 767 = .ok (.invokevirtual 113, 3) := by decide +kernel
theorem dL_law_770 : decode cL_law 770 = .ok (.aload_n 2, 1) := by decide +kernel
theorem dL_law_771 : decode cL_law 771 = .ok (.aload_n 0, 1) := by decide +kernel
theorem dL_law_772 : decode cL_law 772 = .ok (.iload_n 3, 1) := by decide +kernel
theorem dL_law_773 : decode cL_law 773 = .ok (.iconst 1, 1) := by decide +kernel
theorem dL_law_774 : decode cL_law 774 = .ok (.iadd, 1) := by decide +kernel
theorem dL_law_775 : decode cL_law 775 = .ok (.iaload, 1) := by decide +kernel
theorem dL_law_776 : decode cL_law 776 = .ok (.aload_n 0, 1) := by decide +kernel
theorem dL_law_777 : decode cL_law 777 = .ok (.iload_n 3, 1) := by decide +kernel
theorem dL_law_778 : decode cL_law 778 = .ok (.iconst 2, 1) := by decide +kernel
theorem dL_law_779 : decode cL_law 779 = .ok (.iadd, 1) := by decide +kernel
theorem dL_law_780 : decode cL_law 780 = .ok (.iaload, 1) := by decide +kernel
theorem dL_law_781 : decode cL_law 781 = .ok (.aload_n 0, 1) := by decide +kernel
theorem dL_law_782 : decode cL_law 782 = .ok (.iload_n 3, 1) := by decide +kernel
theorem dL_law_783 : decode cL_law 783 = .ok (.iconst 3, 1) := by decide +kernel
theorem dL_law_784 : decode cL_law 784 = .ok (.iadd, 1) := by decide +kernel
theorem dL_law_785 : decode cL_law 785 = .ok (.iaload, 1) := by decide +kernel
theorem dL_law_786 : decode cL_law 786 = .ok (.aload_n 0, 1) := by decide +kernel
theorem dL_law_787 : decode cL_law 787 = .ok (.iload_n 3, 1) := by decide +kernel
theorem dL_law_788 : decode cL_law 788 = .ok (.iconst 4, 1) := by decide +kernel
theorem dL_law_789 : decode cL_law 789 = .ok (.iadd, 1) := by decide +kernel
theorem dL_law_790 : decode cL_law 790 = .ok (.iaload, 1) := by decide +kernel
theorem dL_law_791 : decode cL_law 791 = .ok (.invokevirtual 117, 3) := by decide +kernel
theorem dL_law_794 : decode cL_law 794 = .ok (.if_icmp .eq 97, 3) := by decide +kernel
theorem dL_law_797 : decode cL_law 797 = .ok (.iconst 0, 1) := by decide +kernel
theorem dL_law_798 : decode cL_law 798 = .ok (.ireturn, 1) := by decide +kernel
theorem dL_law_799 : decode cL_law 799 = .ok (.aload_n 1, 1) := by decide +kernel
theorem dL_law_800 : decode cL_law 800 = .ok (.aload_n 0, 1) := by decide +kernel
theorem dL_law_801 : decode cL_law 801 = .ok (.iload_n 3, 1) := by decide +kernel
theorem dL_law_802 : decode cL_law 802 = .ok (.iconst 1, 1) := by decide +kernel
theorem dL_law_803 : decode cL_law 803 = .ok (.iadd, 1) := by decide +kernel
theorem dL_law_804 : decode cL_law 804 = .ok (.iaload, 1) := by decide +kernel
theorem dL_law_805 : decode cL_law 805 = .ok (.aload_n 0, 1) := by decide +kernel
theorem dL_law_806 : decode cL_law 806 = .ok (.iload_n 3, 1) := by decide +kernel
theorem dL_law_807 : decode cL_law 807 = .ok (.iconst 2, 1) := by decide +kernel
theorem dL_law_808 : decode cL_law 808 = .ok (.iadd, 1) := by decide +kernel
theorem dL_law_809 : decode cL_law 809 = .ok (.iaload, 1) := by decide +kernel
theorem dL_law_810 : decode cL_law 810 = .ok (.aload_n 0, 1) := by decide +kernel
theorem dL_law_811 : decode cL_law 811 = .ok (.iload_n 3, 1) := by decide +kernel
theorem dL_law_812 : decode cL_law 812 = .ok (.iconst 3, 1) := by decide +kernel
theorem dL_law_813 : decode cL_law 813 = .ok (.iadd, 1) := by decide +kernel
theorem dL_law_814 : decode cL_law 814 = .ok (.iaload, 1) := by decide +kernel
theorem dL_law_815 : decode cL_law 815 = .ok (.invokevirtual 118, 3) := by decide +kernel
theorem dL_law_818 : decode cL_law 818 = .ok (.aload_n 2, 1) := by decide +kernel
theorem dL_law_819 : decode cL_law 819 = .ok (.aload_n 0, 1) := by decide +kernel
theorem dL_law_820 : decode cL_law 820 = .ok (.iload_n 3, 1) := by decide +kernel
theorem dL_law_821 : decode cL_law 821 = .ok (.iconst 1, 1) := by decide +kernel
theorem dL_law_822 : decode cL_law 822 = .ok (.iadd, 1) := by decide +kernel
theorem dL_law_823 : decode cL_law 823 = .ok (.iaload, 1) := by decide +kernel
theorem dL_law_824 : decode cL_law 824 = .ok (.aload_n 0, 1) := by decide +kernel
theorem dL_law_825 : decode cL_law 825 = .ok (.iload_n 3, 1) := by decide +kernel
theorem dL_law_826 : decode cL_law 826 = .ok (.iconst 2, 1) := by decide +kernel
theorem dL_law_827 : decode cL_law 827 = .ok (.iadd, 1) := by decide +kernel
theorem dL_law_828 : decode cL_law 828 = .ok (.iaload, 1) := by decide +kernel
theorem dL_law_829 : decode cL_law 829 = .ok (.aload_n 0, 1) := by decide +kernel
theorem dL_law_830 : decode cL_law 830 = .ok (.iload_n 3, 1) := by decide +kernel
theorem dL_law_831 : decode cL_law 831 = .ok (.iconst 3, 1) := by decide +kernel
theorem dL_law_832 : decode cL_law 832 = .ok (.iadd, 1) := by decide +kernel
theorem dL_law_833 : decode cL_law 833 = .ok (.iaload, 1) := by decide +kernel
theorem dL_law_834 : decode cL_law 834 = .ok (.invokevirtual 121, 3) := by decide +kernel
theorem dL_law_837 : decode cL_law 837 = .ok (.if_icmp .eq 54, 3) := by decide +kernel
theorem dL_law_840 : decode cL_law 840 = .ok (.iconst 0, 1) := by decide +kernel
theorem dL_law_841 : decode cL_law 841 = .ok (.ireturn, 1) := by decide +kernel
theorem dL_law_842 : decode cL_law 842 = .ok (.aload_n 1, 1) := by decide +kernel
theorem dL_law_843 : decode cL_law 843 = .ok (.invokevirtual 122, 3) := by decide +kernel
theorem dL_law_846 : decode cL_law 846 = .ok (.aload_n 2, 1) := by decide +kernel
theorem dL_law_847 : decode cL_law 847 = .ok (.invokevirtual 125, 3) := by decide +kernel
theorem dL_law_850 : decode cL_law 850 = .ok (.if_icmp .eq 41, 3) := by decide +kernel
theorem dL_law_853 : decode cL_law 853 = .ok (.iconst 0, 1) := by decide +kernel
theorem dL_law_854 : decode cL_law 854 = .ok (.ireturn, 1) := by decide +kernel
theorem dL_law_855 : decode cL_law 855 = .ok (.aload_n 1, 1) := by decide +kernel
theorem dL_law_856 : decode cL_law 856 = .ok (.invokevirtual 126, 3) := by decide +kernel
theorem dL_law_859 : decode cL_law 859 = .ok (.aload_n 2, 1) := by decide +kernel
theorem dL_law_860 : decode cL_law 860 = .ok (.invokevirtual 129, 3) := by decide +kernel
theorem dL_law_863 : decode cL_law 863 = .ok (.if_icmp .eq 28, 3) := by decide +kernel
theorem dL_law_866 : decode cL_law 866 = .ok (.iconst 0, 1) := by decide +kernel
theorem dL_law_867 : decode cL_law 867 = .ok (.ireturn, 1) := by decide +kernel
theorem dL_law_868 : decode cL_law 868 = .ok (.aload_n 1, 1) := by decide +kernel
theorem dL_law_869 : decode cL_law 869 = .ok (.aload_n 0, 1) := by decide +kernel
theorem dL_law_870 : decode cL_law 870 = .ok (.iload_n 3, 1) := by decide +kernel
theorem dL_law_871 : decode cL_law 871 = .ok (.iconst 1, 1) := by decide +kernel
theorem dL_law_872 : decode cL_law 872 = .ok (.iadd, 1) := by decide +kernel
theorem dL_law_873 : decode cL_law 873 = .ok (.iaload, 1) := by decide +kernel
theorem dL_law_874 : decode cL_law 874 = .ok (.invokevirtual 130, 3) := by decide +kernel
theorem dL_law_877 : decode cL_law 877 = .ok (.aload_n 2, 1) := by decide +kernel
theorem dL_law_878 : decode cL_law 878 = .ok (.aload_n 0, 1) := by decide +kernel
theorem dL_law_879 : decode cL_law 879 = .ok (.iload_n 3, 1) := by decide +kernel
theorem dL_law_880 : decode cL_law 880 = .ok (.iconst 1, 1) := by decide +kernel
theorem dL_law_881 : decode cL_law 881 = .ok (.iadd, 1) := by decide +kernel
theorem dL_law_882 : decode cL_law 882 = .ok (.iaload, 1) := by decide +kernel
theorem dL_law_883 : decode cL_law 883 = .ok (.invokevirtual 133, 3) := by decide +kernel
theorem dL_law_886 : decode cL_law 886 = .ok (.if_icmp .eq 5, 3) := by decide +kernel
theorem dL_law_889 : decode cL_law 889 = .ok (.iconst 0, 1) := by decide +kernel
theorem dL_law_890 : decode cL_law 890 = .ok (.ireturn, 1) := by decide +kernel
theorem dL_law_891 : decode cL_law 891 = .ok (.iinc 3 5, 3) := by decide +kernel
theorem dL_law_894 : decode cL_law 894 = .ok (.goto (-876), 3) := by decide +kernel
theorem dL_law_897 : decode cL_law 897 = .ok (.iconst 1, 1) := by decide +kernel
theorem dL_law_898 : decode cL_law 898 = .ok (.ireturn, 1) := by decide +kernel
end
section
/-! the words that a call may hand on -/
def TB : List Cond := lw_tbl.filter goodWord
theorem tb_good : ∀ w ∈ TB, (w.onTables && w.keeps) = true ∨ ∃ ty, w = .arrayClass ty := fun w h => good_of_word (List.mem_filter.mp h).2
theorem tb_i {w : Cond} (i : Nat) (h : lw_tbl[i]? = some w) (hg : goodWord w = true) : w ∈ TB := List.mem_filter.mpr ⟨List.mem_of_getElem? h, hg⟩
theorem tb_code {y : MethodName} {cc : ByteArray} {n : Nat} {ret : Option FieldType} (h : Cond.code y cc n ret ∈ TB) : GoodIn TB (.code y cc n ret :: TB) := by
  intro w hw
  rcases List.mem_cons.mp hw with rfl | hw
  · exact ⟨h, tb_good _ h⟩
  · exact ⟨hw, tb_good _ hw⟩
/-! the memory: how many cells there are; ints, longs, references by cell and place. The shape of each cell is known ahead: (kind, how many) -/
abbrev Mu : Type := Nat × (Nat → Nat → Int32) × (Nat → Nat → Int64) × (Nat → Nat → Option Nat)
def shG : List (Nat × Nat) := [(0, 10), (8, 5), (8, 7), (8, 7), (8, 7), (8, 7)]
def shT : List (Nat × Nat) := [(6, 8), (3, 3), (9, 200), (8, 3)] ++ shG ++ shG ++ [(4, 3), (11, 8)] ++ shG ++ shG ++ shG ++ shG ++ shG ++ shG ++ shG ++ shG ++ [(4, 3), (11, 2)] ++ shG ++ shG ++ [(5, 4), (8, 6), (8, 6), (10, 6), (2, 7), (8, 5), (10, 5), (8, 8), (8, 8), (8, 7), (8, 7), (1, 3), (8, 9), (7, 18), (8, 200), (8, 56), (8, 56), (8, 21), (8, 168), (8, 42), (8, 18), (8, 21), (8, 7), (8, 7), (8, 8), (8, 8), (8, 21)]
def sh (c : Nat) : Nat × Nat := shT.getD c (99, 0)
def m2 {α : Type} (f : Nat → Nat → α) (c k : Nat) (x : α) : Nat → Nat → α := fun c' k' => if c' = c ∧ k' = k then x else f c' k'
theorem m2_ne {α : Type} {f : Nat → Nat → α} {c k : Nat} {x : α} {c' : Nat} (h : c' ≠ c) : m2 f c k x c' = f c' := by
  funext k'
  simp [m2, h]
theorem m2_at {α : Type} {f : Nat → Nat → α} {c k : Nat} {x : α} : m2 f c k x c k = x := by simp [m2]
theorem m2_nk {α : Type} {f : Nat → Nat → α} {c k : Nat} {x : α} {k' : Nat} (h : k' ≠ k) : m2 f c k x c k' = f c k' := by simp [m2, h]
def si (μ : Mu) (c k : Nat) (x : Int32) : Mu := (μ.1, m2 μ.2.1 c k x, μ.2.2.1, μ.2.2.2)
def sl (μ : Mu) (c k : Nat) (x : Int64) : Mu := (μ.1, μ.2.1, m2 μ.2.2.1 c k x, μ.2.2.2)
def sr (μ : Mu) (c k : Nat) (x : Option Nat) : Mu := (μ.1, μ.2.1, μ.2.2.1, m2 μ.2.2.2 c k x)
/-- a new cell: all 0, all null -/
def sn (μ : Mu) : Mu := (μ.1 + 1, (fun c k => if c = μ.1 then 0 else μ.2.1 c k), (fun c k => if c = μ.1 then 0 else μ.2.2.1 c k), (fun c k => if c = μ.1 then none else μ.2.2.2 c k))
abbrev isO (t a : Nat) (μ : Mu) : Prop := a < μ.1 ∧ (sh a).1 = t
def inb (i : Int32) (n : Nat) : Bool := !(decide (i < 0) || decide (n ≤ i.toNatClampNeg))
theorem inb_p {i : Int32} {n : Nat} (h : inb i n = true) : vp_in i n := by
  intro q
  rcases q with q | q <;> simp [inb, q] at h
def grd {α : Type} (c : Prop) [Decidable c] (o : Option α) : Option α := if c then o else none
theorem grd_p {α : Type} {c : Prop} [Decidable c] {o : Option α} {r : α} (h : grd c o = some r) : c := by
  by_cases hc : c
  · exact hc
  · simp [grd, hc] at h
theorem grd_v {α : Type} {c : Prop} [Decidable c] {o : Option α} {r : α} (h : grd c o = some r) : o = some r := by
  have hc := grd_p h
  rwa [grd, if_pos hc] at h
def gI (t a k : Nat) (μ : Mu) : Option Int32 := grd (isO t a μ) (some (μ.2.1 a k))
def gL (t a k : Nat) (μ : Mu) : Option Int64 := grd (isO t a μ) (some (μ.2.2.1 a k))
def gR (t a k : Nat) (μ : Mu) : Option Nat := grd (isO t a μ) (μ.2.2.2 a k)
def pI (t a k : Nat) (x : Int32) (μ : Mu) : Option Mu := grd (isO t a μ) (some (si μ a k x))
def pL (t a k : Nat) (x : Int64) (μ : Mu) : Option Mu := grd (isO t a μ) (some (sl μ a k x))
def pR (t a k : Nat) (x : Nat) (μ : Mu) : Option Mu := grd (isO t a μ) (some (sr μ a k (some x)))
def aI (t a : Nat) (i : Int32) (μ : Mu) : Option Int32 := grd (isO t a μ ∧ inb i (sh a).2 = true) (some (μ.2.1 a i.toNatClampNeg))
def aR (a : Nat) (i : Int32) (μ : Mu) : Option Nat := grd (isO 11 a μ ∧ inb i (sh a).2 = true) (μ.2.2.2 a i.toNatClampNeg)
def tyA (t : Nat) : FieldType := if t = 8 then .int else if t = 9 then .char else .boolean
def bI (t a : Nat) (i x : Int32) (μ : Mu) : Option Mu := grd (isO t a μ ∧ inb i (sh a).2 = true) (some (si μ a i.toNatClampNeg (vp_nar (tyA t) x)))
def bR (a : Nat) (i : Int32) (x : Nat) (μ : Mu) : Option Mu := grd ((isO 11 a μ ∧ inb i (sh a).2 = true) ∧ isO 0 x μ) (some (sr μ a i.toNatClampNeg (some x)))
def aN (t a : Nat) (μ : Mu) : Option Int32 := grd (isO t a μ) (some (Int32.ofNat (sh a).2))
def nO (t : Nat) (μ : Mu) : Option (Nat × Mu) := grd ((sh μ.1).1 = t) (some (μ.1, sn μ))
def nA (t : Nat) (n : Int32) (μ : Mu) : Option (Nat × Mu) := grd ((sh μ.1).1 = t ∧ ¬ n < 0 ∧ n.toNatClampNeg = (sh μ.1).2 ∧ (sh μ.1).2 ≤ 1000) (some (μ.1, sn μ))
theorem bnd {α β : Type} {o : Option α} {f : α → Option β} {r : β} (h : o.bind f = some r) : ∃ x, o = some x ∧ f x = some r := by
  cases o with
  | none => simp at h
  | some x => exact ⟨x, rfl, h⟩
/-! the classes -/
def kT (ci : Nat) : vw_C := vwCl.getD ci (RX0, TX0, 10)
def kF (ci : Nat) : Nat → FieldType := match ci with
  | 0 => tyX0
  | 1 => tyX1
  | 2 => tyX2
  | 3 => tyX3
  | 4 => tyX4
  | 5 => tyX5
  | 6 => tyX6
  | _ => tyX7
def ClOk (ci : Nat) : Prop := vwCl[ci]? = some (kT ci) ∧ (∀ w ∈ u_ws (kT ci).1 (kT ci).2.1 (kT ci).2.2, w ∈ TB) ∧ (∀ k, k < (kT ci).2.2 → parseFieldDescriptor ((kT ci).2.1 k).2.2.1 = some (kF ci k)) ∧ (∀ a, a < (kT ci).2.2 → ∀ b, b < (kT ci).2.2 → a ≠ b → ((kT ci).2.1 a).2.1 ≠ ((kT ci).2.1 b).2.1)
theorem clok0 : ClOk 0 := ⟨rfl, by decide +kernel, tyX0_ok, nmX0⟩
theorem clok1 : ClOk 1 := ⟨rfl, by decide +kernel, tyX1_ok, nmX1⟩
theorem clok2 : ClOk 2 := ⟨rfl, by decide +kernel, tyX2_ok, nmX2⟩
theorem clok3 : ClOk 3 := ⟨rfl, by decide +kernel, tyX3_ok, nmX3⟩
theorem clok4 : ClOk 4 := ⟨rfl, by decide +kernel, tyX4_ok, nmX4⟩
theorem clok5 : ClOk 5 := ⟨rfl, by decide +kernel, tyX5_ok, nmX5⟩
theorem clok6 : ClOk 6 := ⟨rfl, by decide +kernel, tyX6_ok, nmX6⟩
theorem clok7 : ClOk 7 := ⟨rfl, by decide +kernel, tyX7_ok, nmX7⟩
theorem clok {ci : Nat} (h : ci < 8) : ClOk ci := by
  match ci, h with
  | 0, _ => exact clok0
  | 1, _ => exact clok1
  | 2, _ => exact clok2
  | 3, _ => exact clok3
  | 4, _ => exact clok4
  | 5, _ => exact clok5
  | 6, _ => exact clok6
  | 7, _ => exact clok7
/-! the memory in the heap: G = (the classes' numbers, the array classes of int, char, boolean, Green; the first address) -/
abbrev Gm : Type := va_G × ClassId × ClassId × ClassId × ClassId × Nat
abbrev gB (G : Gm) : Nat := G.2.2.2.2.2
def fv (B : Nat) (μ : Mu) (c k : Nat) (ty : FieldType) : Value := match ty with
  | .long => .long (μ.2.2.1 c k)
  | .int => .int (μ.2.1 c k)
  | _ => va_rf ((μ.2.2.2 c k).map (fun a => B + a))
def fs (B : Nat) (μ : Mu) (c ci : Nat) : List Value := (List.range (kT ci).2.2).map (fun k => fv B μ c k (kF ci k))
def cellv (G : Gm) (μ : Mu) (c : Nat) : va_E :=
  if (sh c).1 = 8 then .inl (G.2.1, (sh c).2, .inl (μ.2.1 c))
  else if (sh c).1 = 9 then .inl (G.2.2.1, (sh c).2, .inl (μ.2.1 c))
  else if (sh c).1 = 10 then .inl (G.2.2.2.1, (sh c).2, .inl (μ.2.1 c))
  else if (sh c).1 = 11 then .inl (G.2.2.2.2.1, (sh c).2, .inr (.inr (.inr (.inr (fun k => (μ.2.2.2 c k).map (fun a => gB G + a))))))
  else .inr ((sh c).1, fs (gB G) μ c (sh c).1)
def wsOf (G : Gm) (μ : Mu) : va_W := (List.range μ.1).map (fun c => (gB G + c, cellv G μ c))
def tysOf (G : Gm) : List (ClassId × FieldType) := [(G.2.1, .int), (G.2.2.1, .char), (G.2.2.2.1, .boolean), (G.2.2.2.2.1, .object RX0)]
theorem ws_at {G : Gm} {μ : Mu} {c : Nat} (h : c < μ.1) : (wsOf G μ)[c]? = some (gB G + c, cellv G μ c) := by simp [wsOf, h]
theorem ws_of {G : Gm} {μ : Mu} {c : Nat} {q : Nat × va_E} (h : (wsOf G μ)[c]? = some q) : c < μ.1 ∧ q = (gB G + c, cellv G μ c) := by
  by_cases hc : c < μ.1
  · rw [ws_at hc] at h
    exact ⟨hc, (Option.some.inj h).symm⟩
  · simp [wsOf, hc] at h
theorem ws_D (G : Gm) (μ : Mu) : va_D (fun q => gB G ≤ q) (wsOf G μ) := by
  refine ⟨fun i j p q hi hj h => ?_, fun k q hk => ?_⟩
  · have h1 := (ws_of hi).2
    have h2 := (ws_of hj).2
    rw [h1, h2] at h
    simpa using h
  · rw [(ws_of hk).2]
    simp
theorem ws_set {G : Gm} {μ μ' : Mu} {c : Nat} {e : va_E} (hn : μ'.1 = μ.1) (ho : ∀ c', c' ≠ c → cellv G μ' c' = cellv G μ c') (he : e = cellv G μ' c) : (wsOf G μ).set c (gB G + c, e) = wsOf G μ' := by
  apply List.ext_getElem?
  intro k
  by_cases hk : k = c
  · subst hk
    by_cases hl : k < μ.1
    · rw [List.getElem?_set_self (by simp [wsOf, hl]), ws_at (by rw [hn]; exact hl), he]
    · simp [wsOf, hn, hl]
  · rw [List.getElem?_set_ne (Ne.symm hk)]
    by_cases hl : k < μ.1
    · rw [ws_at hl, ws_at (by rw [hn]; exact hl), ho k hk]
    · simp [wsOf, hn, hl]
theorem fs_get {B : Nat} {μ : Mu} {c ci k : Nat} (h : k < (kT ci).2.2) : (fs B μ c ci)[k]? = some (fv B μ c k (kF ci k)) := by simp [fs, h]
theorem fs_set {B : Nat} {μ μ' : Mu} {c ci k : Nat} {v : Value} (hk : fv B μ' c k (kF ci k) = v) (ho : ∀ j, j ≠ k → fv B μ' c j (kF ci j) = fv B μ c j (kF ci j)) : (fs B μ c ci).set k v = fs B μ' c ci := by
  apply List.ext_getElem?
  intro j
  by_cases hj : j = k
  · subst hj
    by_cases hl : j < (kT ci).2.2
    · rw [List.getElem?_set_self (by simp [fs, hl]), fs_get hl, hk]
    · simp [fs, hl]
  · rw [List.getElem?_set_ne (Ne.symm hj)]
    by_cases hl : j < (kT ci).2.2
    · rw [fs_get hl, fs_get hl, ho j hj]
    · simp [fs, hl]
theorem cell_o {G : Gm} {μ : Mu} {c ci : Nat} (h : (sh c).1 = ci) (hc : ci < 8) : cellv G μ c = .inr (ci, fs (gB G) μ c ci) := by
  subst h
  rw [cellv, if_neg (by omega), if_neg (by omega), if_neg (by omega), if_neg (by omega)]
theorem cell_8 {G : Gm} {μ : Mu} {c : Nat} (h : (sh c).1 = 8) : cellv G μ c = .inl (G.2.1, (sh c).2, .inl (μ.2.1 c)) := by rw [cellv, if_pos h]
theorem cell_9 {G : Gm} {μ : Mu} {c : Nat} (h : (sh c).1 = 9) : cellv G μ c = .inl (G.2.2.1, (sh c).2, .inl (μ.2.1 c)) := by rw [cellv, if_neg (by omega), if_pos h]
theorem cell_10 {G : Gm} {μ : Mu} {c : Nat} (h : (sh c).1 = 10) : cellv G μ c = .inl (G.2.2.2.1, (sh c).2, .inl (μ.2.1 c)) := by rw [cellv, if_neg (by omega), if_neg (by omega), if_pos h]
theorem cell_11 {G : Gm} {μ : Mu} {c : Nat} (h : (sh c).1 = 11) : cellv G μ c = .inl (G.2.2.2.2.1, (sh c).2, .inr (.inr (.inr (.inr (fun k => (μ.2.2.2 c k).map (fun a => gB G + a)))))) := by rw [cellv, if_neg (by omega), if_neg (by omega), if_neg (by omega), if_pos h]
theorem cell_si {G : Gm} {μ : Mu} {c k : Nat} {x : Int32} {c' : Nat} (h : c' ≠ c) : cellv G (si μ c k x) c' = cellv G μ c' := by
  simp only [cellv, fs, fv, si, m2_ne h]
theorem cell_sl {G : Gm} {μ : Mu} {c k : Nat} {x : Int64} {c' : Nat} (h : c' ≠ c) : cellv G (sl μ c k x) c' = cellv G μ c' := by
  simp only [cellv, fs, fv, sl, m2_ne h]
theorem cell_sr {G : Gm} {μ : Mu} {c k : Nat} {x : Option Nat} {c' : Nat} (h : c' ≠ c) : cellv G (sr μ c k x) c' = cellv G μ c' := by
  simp only [cellv, fs, fv, sr, m2_ne h]
def isRf (ty : FieldType) : Bool := match ty with
  | .array _ => true
  | .object _ => true
  | _ => false
theorem fv_rf {B : Nat} {μ : Mu} {c k : Nat} {ty : FieldType} (h : isRf ty = true) : fv B μ c k ty = va_rf ((μ.2.2.2 c k).map (fun a => B + a)) := by
  cases ty <;> first | rfl | simp [isRf] at h
theorem fv_si {B : Nat} {μ : Mu} {c k : Nat} {x : Int32} {j : Nat} {ty : FieldType} (h : j ≠ k) : fv B (si μ c k x) c j ty = fv B μ c j ty := by
  cases ty <;> simp only [fv, si, m2_nk h]
theorem fv_sl {B : Nat} {μ : Mu} {c k : Nat} {x : Int64} {j : Nat} {ty : FieldType} (h : j ≠ k) : fv B (sl μ c k x) c j ty = fv B μ c j ty := by
  cases ty <;> simp only [fv, sl, m2_nk h]
theorem fv_sr {B : Nat} {μ : Mu} {c k : Nat} {x : Option Nat} {j : Nat} {ty : FieldType} (h : j ≠ k) : fv B (sr μ c k x) c j ty = fv B μ c j ty := by
  cases ty <;> simp only [fv, sr, m2_nk h]
def Hp (G : Gm) (μ : Mu) (H : Heap) : Prop := va_P G.1 vwCl (wsOf G μ) H
abbrev nestW : Cond := .methodLinkNest "HourGreen$Green" 47 yX6_isWithin "HourGreen"
def Tt (G : Gm) (U : State) : Prop := va_K G.1 vwCl (tysOf G) U ∧ va_Nw nestW U ∧ va_AO RX0 U
theorem Tt.warm {G : Gm} {s U : State} (hW : s.WarmedH U.vm) (h : Tt G s) : Tt G U := ⟨va_K.moved hW.alike h.1, va_Nw.warmM hW h.2.1, va_AO.moved hW.alike h.2.2⟩
theorem Tt.same {G : Gm} {s U : State} (hv : s.vm = U.vm) (h : Tt G s) : Tt G U := ⟨va_K.moved (hv ▸ Vm.Alike.refl s.vm) h.1, va_Nw.same rfl hv h.2.1, va_AO.moved (hv ▸ Vm.Alike.refl s.vm) h.2.2⟩
abbrev fA (G : Gm) : Nat → Prop := fun q => gB G ≤ q
abbrev Pm (G : Gm) (avs : List Value) (μ : Mu) : Array Value → State → Prop := va_Pc avs (fun U => U.heap.size = gB G + μ.1 ∧ Hp G μ U.heap ∧ Tt G U)
abbrev Qm (G : Gm) (r : Option Value) (μ' : Mu) (mc : Nat) : Array Value → State → Outcome → State → Prop := fun _ st o t => o = .returned r ∧ Hp G μ' t.heap ∧ va_F (fA G) st t ∧ st.heap.size + mc = gB G + μ'.1
def Mt (G : Gm) (l : Launch) (y : MethodName) (cc : ByteArray) (maxL : Nat) (ret : Option FieldType) (lev mc ms : Nat) (avs : List Value) (μ : Mu) (r : Option Value) (μ' : Mu) : Prop :=
  Met l y (.code y cc maxL ret :: TB) { frames := lev, cells := mc, slots := ms, locals := 40 * lev } (Pm G avs μ) (Qm G r μ' mc) mc ms (fA G)
def Cx (G : Gm) (p : Program) (s : State) (m : MethodId) (args : Array Value) (meth : Method) (c : Code) (cc : ByteArray) (nL : Nat) (own : String) (ret : Option FieldType) (nm : String) : Prop :=
  p.tables.exec = Jvm.exec ∧ c.code = cc ∧ c.maxLocals = nL ∧ s.vm.findClass own = some m.cls ∧ (∀ w ∈ TB, w.before args s = true) ∧ Tt G s ∧ meth.locks = false ∧ gB G ≤ s.heap.size ∧ meth.sig.returnType = ret ∧ meth.name = nm
/-- the machine, at pc with these locals, this stack and this memory, comes to Q -/
def Lt (G : Gm) (p : Program) (l : Launch) (e : Env) (R : Room) (s : State) (m : MethodId) (args : Array Value) (below : List Frame) (meth : Method) (c : Code) (cc : ByteArray) (nL : Nat) (own : String) (ret : Option FieldType) (nm : String) (Q : State → Prop) (cells slots pc : Nat) (lv : List (Nat × Value)) (st : List Value) (μ : Mu) : Prop :=
  Cx G p s m args meth c cc nL own ret nm → s.heap.size + cells = gB G + μ.1 → ∀ (H : Heap) (locs : List Loc) (ls : Array Slot), Hp G μ H → va_S (fA G) s.heap H locs → lv_has ls nL lv → W p l e R s m args below meth c H locs cells slots Q (F0 m pc ls st)
theorem Mt.of {G : Gm} {l : Launch} {y : MethodName} {cc : ByteArray} {maxL : Nat} {ret : Option FieldType} {lev mc ms : Nat} {avs : List Value} {μ : Mu} {r : Option Value} {μ' : Mu} (hy : plainName y.cls = true) (hn : (lg_sl avs).length ≤ maxL)
    (body : ∀ p e s m args below meth c, Lt G p l e { frames := lev, cells := mc, slots := ms, locals := 40 * lev } s m args below meth c cc maxL y.cls ret y.name (MQ below (Qm G r μ' mc) args s mc ms (fA G)) 0 0 0 (lv_args 0 avs) [] μ) : Mt G l y cc maxL ret lev mc ms avs μ r μ' := by
  refine Met.ofW (cc := cc) (maxL := maxL) (ret := ret) hy rfl ?_
  intro p e s m args below meth c s₁ B hml hv
  obtain ⟨rfl, hz, hH, hT⟩ := hv
  have hts := atoms_spec (ws := .code y cc maxL ret :: TB) B.pre
  have hl := lv_entry avs (n := maxL) hn
  rw [lg_entry_eq]
  exact body p e s m avs.toArray below meth c ⟨B.exec, B.bytes, hml, findClass_of_methodNamed B.named, fun w hw => hts w (List.mem_cons_of_mem _ hw), hT, B.notSynchronized, by omega, B.returns, (name_of_methodNamed B.named B.method).1⟩ hz s.heap [] _ hH va_S.rf hl
end
section
section XR
variable {G : Gm} {p : Program} {l : Launch} {e : Env} {R : Room} {s : State} {m : MethodId} {args : Array Value} {below : List Frame} {meth : Method} {c : Code} {cc : ByteArray} {nL : Nat} {own : String} {ret : Option FieldType} {nm : String} {Q : State → Prop} {cells slots pc : Nat} {lv lv' : List (Nat × Value)} {st rest : List Value} {μ μ' : Mu}
theorem x_iconst {n : Int} (v : Int32) (hd : decode cc pc = .ok (.iconst n, 1)) (hv : Int32.ofInt n = v) (k : Lt G p l e R s m args below meth c cc nL own ret nm Q cells slots (pc + 1) lv (.int v :: st) μ) : Lt G p l e R s m args below meth c cc nL own ret nm Q cells slots pc lv st μ := fun C z H L ls h1 h2 h3 => lv_iconst C.1 C.2.1 hd hv (k C z H L ls h1 h2 h3)
theorem x_bipush {n : Int} (v : Int32) (hd : decode cc pc = .ok (.bipush n, 2)) (hv : (Int8.ofInt n).toInt32 = v) (k : Lt G p l e R s m args below meth c cc nL own ret nm Q cells slots (pc + 2) lv (.int v :: st) μ) : Lt G p l e R s m args below meth c cc nL own ret nm Q cells slots pc lv st μ := fun C z H L ls h1 h2 h3 => lv_bipush C.1 C.2.1 hd hv (k C z H L ls h1 h2 h3)
theorem x_sipush {n : Int} (v : Int32) (hd : decode cc pc = .ok (.sipush n, 3)) (hv : (Int16.ofInt n).toInt32 = v) (k : Lt G p l e R s m args below meth c cc nL own ret nm Q cells slots (pc + 3) lv (.int v :: st) μ) : Lt G p l e R s m args below meth c cc nL own ret nm Q cells slots pc lv st μ := fun C z H L ls h1 h2 h3 => lv_sipush C.1 C.2.1 hd hv (k C z H L ls h1 h2 h3)
theorem x_lconst {n : Fin 2} (v : Int64) (hd : decode cc pc = .ok (.lconst n, 1)) (hv : Int64.ofNat (n : Nat) = v) (k : Lt G p l e R s m args below meth c cc nL own ret nm Q cells slots (pc + 1) lv (.long v :: st) μ) : Lt G p l e R s m args below meth c cc nL own ret nm Q cells slots pc lv st μ := fun C z H L ls h1 h2 h3 => lv_lconst C.1 C.2.1 hd hv (k C z H L ls h1 h2 h3)
theorem x_ldc {i : Nat} {v : Int32} (hw : Cond.constant own i v ∈ TB) (hd : decode cc pc = .ok (.ldc i, 2)) (k : Lt G p l e R s m args below meth c cc nL own ret nm Q cells slots (pc + 2) lv (.int v :: st) μ) : Lt G p l e R s m args below meth c cc nL own ret nm Q cells slots pc lv st μ := fun C z H L ls h1 h2 h3 => lv_ldc C.1 C.2.1 C.2.2.2.1 (C.2.2.2.2.1 _ hw) hd (k C z H L ls h1 h2 h3)
theorem x_ldcw {i : Nat} {v : Int32} (hw : Cond.constant own i v ∈ TB) (hd : decode cc pc = .ok (.ldc_w i, 3)) (k : Lt G p l e R s m args below meth c cc nL own ret nm Q cells slots (pc + 3) lv (.int v :: st) μ) : Lt G p l e R s m args below meth c cc nL own ret nm Q cells slots pc lv st μ := fun C z H L ls h1 h2 h3 => lv_ldcw C.1 C.2.1 C.2.2.2.1 (C.2.2.2.2.1 _ hw) hd (k C z H L ls h1 h2 h3)
theorem x_ldc2 {i : Nat} {v : Int64} (hw : Cond.constantLong own i v ∈ TB) (hd : decode cc pc = .ok (.ldc2_w i, 3)) (k : Lt G p l e R s m args below meth c cc nL own ret nm Q cells slots (pc + 3) lv (.long v :: st) μ) : Lt G p l e R s m args below meth c cc nL own ret nm Q cells slots pc lv st μ := fun C z H L ls h1 h2 h3 => lv_ldc2 C.1 C.2.1 C.2.2.2.1 (C.2.2.2.2.1 _ hw) hd (k C z H L ls h1 h2 h3)
theorem x_null (hd : decode cc pc = .ok (.aconst_null, 1)) (k : Lt G p l e R s m args below meth c cc nL own ret nm Q cells slots (pc + 1) lv (.null :: st) μ) : Lt G p l e R s m args below meth c cc nL own ret nm Q cells slots pc lv st μ := fun C z H L ls h1 h2 h3 => lv_null C.1 C.2.1 hd (k C z H L ls h1 h2 h3)
theorem x_iload_n {i : Fin 4} {x : Int32} (q : Nat) (hd : decode cc pc = .ok (.iload_n i, 1)) (hl : lv[q]? = some ((i : Nat), .int x)) (k : Lt G p l e R s m args below meth c cc nL own ret nm Q cells slots (pc + 1) lv (.int x :: st) μ) : Lt G p l e R s m args below meth c cc nL own ret nm Q cells slots pc lv st μ := fun C z H L ls h1 h2 h3 => lv_iload_n C.1 C.2.1 hd rfl (lv_at h3 q hl) (k C z H L ls h1 h2 h3)
theorem x_iload {i : Nat} {x : Int32} (q : Nat) (hd : decode cc pc = .ok (.iload i, 2)) (hl : lv[q]? = some (i, .int x)) (k : Lt G p l e R s m args below meth c cc nL own ret nm Q cells slots (pc + 2) lv (.int x :: st) μ) : Lt G p l e R s m args below meth c cc nL own ret nm Q cells slots pc lv st μ := fun C z H L ls h1 h2 h3 => lv_iload C.1 C.2.1 hd (lv_at h3 q hl) (k C z H L ls h1 h2 h3)
theorem x_lload_n {i : Fin 4} {x : Int64} (q : Nat) (hd : decode cc pc = .ok (.lload_n i, 1)) (hl : lv[q]? = some ((i : Nat), .long x)) (k : Lt G p l e R s m args below meth c cc nL own ret nm Q cells slots (pc + 1) lv (.long x :: st) μ) : Lt G p l e R s m args below meth c cc nL own ret nm Q cells slots pc lv st μ := fun C z H L ls h1 h2 h3 => lv_lload_n C.1 C.2.1 hd rfl (lv_at h3 q hl) (k C z H L ls h1 h2 h3)
theorem x_lload {i : Nat} {x : Int64} (q : Nat) (hd : decode cc pc = .ok (.lload i, 2)) (hl : lv[q]? = some (i, .long x)) (k : Lt G p l e R s m args below meth c cc nL own ret nm Q cells slots (pc + 2) lv (.long x :: st) μ) : Lt G p l e R s m args below meth c cc nL own ret nm Q cells slots pc lv st μ := fun C z H L ls h1 h2 h3 => lv_lload C.1 C.2.1 hd (lv_at h3 q hl) (k C z H L ls h1 h2 h3)
theorem x_aload_n {i : Fin 4} {x : Nat} (q : Nat) (hd : decode cc pc = .ok (.aload_n i, 1)) (hl : lv[q]? = some ((i : Nat), .ref x)) (k : Lt G p l e R s m args below meth c cc nL own ret nm Q cells slots (pc + 1) lv (.ref x :: st) μ) : Lt G p l e R s m args below meth c cc nL own ret nm Q cells slots pc lv st μ := fun C z H L ls h1 h2 h3 => lv_aload_n C.1 C.2.1 hd rfl (lv_at h3 q hl) (k C z H L ls h1 h2 h3)
theorem x_aload_nN {i : Fin 4} (q : Nat) (hd : decode cc pc = .ok (.aload_n i, 1)) (hl : lv[q]? = some ((i : Nat), .null)) (k : Lt G p l e R s m args below meth c cc nL own ret nm Q cells slots (pc + 1) lv (.null :: st) μ) : Lt G p l e R s m args below meth c cc nL own ret nm Q cells slots pc lv st μ := fun C z H L ls h1 h2 h3 => lv_aload_nN C.1 C.2.1 hd rfl (lv_at h3 q hl) (k C z H L ls h1 h2 h3)
/-- storing: the new list of locals is picked from the value and the old ones that stay -/
abbrev lvS (i : Nat) (v : Value) (lv : List (Nat × Value)) : List (Nat × Value) := (i, v) :: lv.filter (fun q => !(q.1 == i) && !(q.1 + 1 == i && q.2.category == 2))
abbrev lvD (i : Nat) (v : Value) (lv : List (Nat × Value)) : List (Nat × Value) := (i, v) :: lv.filter (fun q => !(q.1 == i) && (!(q.1 == i + 1) && !(q.1 + 1 == i && q.2.category == 2)))
theorem x_istore_n {i : Fin 4} {x : Int32} (ks : List Nat) (hd : decode cc pc = .ok (.istore_n i, 1)) (hn : (i : Nat) < nL) (hl : lv_pick (lvS i (.int x) lv) ks = lv') (k : Lt G p l e R s m args below meth c cc nL own ret nm Q cells slots (pc + 1) lv' st μ) : Lt G p l e R s m args below meth c cc nL own ret nm Q cells slots pc lv (.int x :: st) μ := fun C z H L ls h1 h2 h3 => lv_istore_n C.1 C.2.1 hd rfl h3 hn rfl (fun ls' h' => k C z H L ls' h1 h2 (lv_sub h' ks hl))
theorem x_istore {i : Nat} {x : Int32} (ks : List Nat) (hd : decode cc pc = .ok (.istore i, 2)) (hn : i < nL) (hl : lv_pick (lvS i (.int x) lv) ks = lv') (k : Lt G p l e R s m args below meth c cc nL own ret nm Q cells slots (pc + 2) lv' st μ) : Lt G p l e R s m args below meth c cc nL own ret nm Q cells slots pc lv (.int x :: st) μ := fun C z H L ls h1 h2 h3 => lv_istore C.1 C.2.1 hd h3 hn rfl (fun ls' h' => k C z H L ls' h1 h2 (lv_sub h' ks hl))
theorem x_lstore_n {i : Fin 4} {x : Int64} (ks : List Nat) (hd : decode cc pc = .ok (.lstore_n i, 1)) (hn : (i : Nat) + 1 < nL) (hl : lv_pick (lvD i (.long x) lv) ks = lv') (k : Lt G p l e R s m args below meth c cc nL own ret nm Q cells slots (pc + 1) lv' st μ) : Lt G p l e R s m args below meth c cc nL own ret nm Q cells slots pc lv (.long x :: st) μ := fun C z H L ls h1 h2 h3 => lv_lstore_n C.1 C.2.1 hd rfl h3 hn rfl (fun ls' h' => k C z H L ls' h1 h2 (lv_sub h' ks hl))
theorem x_lstore {i : Nat} {x : Int64} (ks : List Nat) (hd : decode cc pc = .ok (.lstore i, 2)) (hn : i + 1 < nL) (hl : lv_pick (lvD i (.long x) lv) ks = lv') (k : Lt G p l e R s m args below meth c cc nL own ret nm Q cells slots (pc + 2) lv' st μ) : Lt G p l e R s m args below meth c cc nL own ret nm Q cells slots pc lv (.long x :: st) μ := fun C z H L ls h1 h2 h3 => lv_lstore C.1 C.2.1 hd h3 hn rfl (fun ls' h' => k C z H L ls' h1 h2 (lv_sub h' ks hl))
theorem x_astore_n {i : Fin 4} {x : Nat} (ks : List Nat) (hd : decode cc pc = .ok (.astore_n i, 1)) (hn : (i : Nat) < nL) (hl : lv_pick (lvS i (.ref x) lv) ks = lv') (k : Lt G p l e R s m args below meth c cc nL own ret nm Q cells slots (pc + 1) lv' st μ) : Lt G p l e R s m args below meth c cc nL own ret nm Q cells slots pc lv (.ref x :: st) μ := fun C z H L ls h1 h2 h3 => lv_astore_n C.1 C.2.1 hd rfl h3 hn rfl (fun ls' h' => k C z H L ls' h1 h2 (lv_sub h' ks hl))
theorem x_astore_nN {i : Fin 4} (ks : List Nat) (hd : decode cc pc = .ok (.astore_n i, 1)) (hn : (i : Nat) < nL) (hl : lv_pick (lvS i .null lv) ks = lv') (k : Lt G p l e R s m args below meth c cc nL own ret nm Q cells slots (pc + 1) lv' st μ) : Lt G p l e R s m args below meth c cc nL own ret nm Q cells slots pc lv (.null :: st) μ := fun C z H L ls h1 h2 h3 => lv_astore_nN C.1 C.2.1 hd rfl h3 hn rfl (fun ls' h' => k C z H L ls' h1 h2 (lv_sub h' ks hl))
theorem x_iinc {i : Nat} {n : Int} {x : Int32} (q : Nat) (v : Int32) (ks : List Nat) (hd : decode cc pc = .ok (.iinc i n, 3)) (hq : lv[q]? = some (i, .int x)) (hv : x + Int32.ofInt n = v) (hn : i < nL) (hl : lv_pick (lvS i (.int v) lv) ks = lv') (k : Lt G p l e R s m args below meth c cc nL own ret nm Q cells slots (pc + 3) lv' st μ) : Lt G p l e R s m args below meth c cc nL own ret nm Q cells slots pc lv st μ := fun C z H L ls h1 h2 h3 => lv_iinc C.1 C.2.1 hd h3 hq hv hn rfl (fun ls' h' => k C z H L ls' h1 h2 (lv_sub h' ks hl))
theorem x_sub (ks : List Nat) (hl : lv_pick lv ks = lv') (k : Lt G p l e R s m args below meth c cc nL own ret nm Q cells slots pc lv' st μ) : Lt G p l e R s m args below meth c cc nL own ret nm Q cells slots pc lv st μ := fun C z H L ls h1 h2 h3 => k C z H L ls h1 h2 (lv_sub h3 ks hl)
theorem x_iadd {x y : Int32} (hd : decode cc pc = .ok (.iadd, 1)) (k : Lt G p l e R s m args below meth c cc nL own ret nm Q cells slots (pc + 1) lv (.int (x + y) :: st) μ) : Lt G p l e R s m args below meth c cc nL own ret nm Q cells slots pc lv (.int y :: .int x :: st) μ := fun C z H L ls h1 h2 h3 => lv_iadd C.1 C.2.1 hd (k C z H L ls h1 h2 h3)
theorem x_isub {x y : Int32} (hd : decode cc pc = .ok (.isub, 1)) (k : Lt G p l e R s m args below meth c cc nL own ret nm Q cells slots (pc + 1) lv (.int (x - y) :: st) μ) : Lt G p l e R s m args below meth c cc nL own ret nm Q cells slots pc lv (.int y :: .int x :: st) μ := fun C z H L ls h1 h2 h3 => lv_isub C.1 C.2.1 hd (k C z H L ls h1 h2 h3)
theorem x_imul {x y : Int32} (hd : decode cc pc = .ok (.imul, 1)) (k : Lt G p l e R s m args below meth c cc nL own ret nm Q cells slots (pc + 1) lv (.int (x * y) :: st) μ) : Lt G p l e R s m args below meth c cc nL own ret nm Q cells slots pc lv (.int y :: .int x :: st) μ := fun C z H L ls h1 h2 h3 => lv_imul C.1 C.2.1 hd (k C z H L ls h1 h2 h3)
theorem x_iand {x y : Int32} (hd : decode cc pc = .ok (.iand, 1)) (k : Lt G p l e R s m args below meth c cc nL own ret nm Q cells slots (pc + 1) lv (.int (x &&& y) :: st) μ) : Lt G p l e R s m args below meth c cc nL own ret nm Q cells slots pc lv (.int y :: .int x :: st) μ := fun C z H L ls h1 h2 h3 => lv_iand C.1 C.2.1 hd (k C z H L ls h1 h2 h3)
theorem x_ior {x y : Int32} (hd : decode cc pc = .ok (.ior, 1)) (k : Lt G p l e R s m args below meth c cc nL own ret nm Q cells slots (pc + 1) lv (.int (x ||| y) :: st) μ) : Lt G p l e R s m args below meth c cc nL own ret nm Q cells slots pc lv (.int y :: .int x :: st) μ := fun C z H L ls h1 h2 h3 => lv_ior C.1 C.2.1 hd (k C z H L ls h1 h2 h3)
theorem x_ixor {x y : Int32} (hd : decode cc pc = .ok (.ixor, 1)) (k : Lt G p l e R s m args below meth c cc nL own ret nm Q cells slots (pc + 1) lv (.int (x ^^^ y) :: st) μ) : Lt G p l e R s m args below meth c cc nL own ret nm Q cells slots pc lv (.int y :: .int x :: st) μ := fun C z H L ls h1 h2 h3 => lv_ixor C.1 C.2.1 hd (k C z H L ls h1 h2 h3)
def dvd (x y : Int32) : Option Int32 := grd (¬ y = 0) (some (x / y))
def rmd (x y : Int32) : Option Int32 := grd (¬ y = 0) (some (x - x / y * y))
def dvdL (x y : Int64) : Option Int64 := grd (¬ y = 0) (some (x / y))
def rmdL (x y : Int64) : Option Int64 := grd (¬ y = 0) (some (x - x / y * y))
theorem x_idiv {x y z : Int32} (hz : dvd x y = some z) (hd : decode cc pc = .ok (.idiv, 1)) (k : Lt G p l e R s m args below meth c cc nL own ret nm Q cells slots (pc + 1) lv (.int z :: st) μ) : Lt G p l e R s m args below meth c cc nL own ret nm Q cells slots pc lv (.int y :: .int x :: st) μ := fun C z H L ls h1 h2 h3 => lv_idiv C.1 C.2.1 hd (grd_p hz) (by rw [Option.some.inj (grd_v hz)]; exact k C z H L ls h1 h2 h3)
theorem x_irem {x y z : Int32} (hz : rmd x y = some z) (hd : decode cc pc = .ok (.irem, 1)) (k : Lt G p l e R s m args below meth c cc nL own ret nm Q cells slots (pc + 1) lv (.int z :: st) μ) : Lt G p l e R s m args below meth c cc nL own ret nm Q cells slots pc lv (.int y :: .int x :: st) μ := fun C z H L ls h1 h2 h3 => lv_irem C.1 C.2.1 hd (grd_p hz) (by rw [Option.some.inj (grd_v hz)]; exact k C z H L ls h1 h2 h3)
theorem x_ldiv {x y z : Int64} (hz : dvdL x y = some z) (hd : decode cc pc = .ok (.ldiv, 1)) (k : Lt G p l e R s m args below meth c cc nL own ret nm Q cells slots (pc + 1) lv (.long z :: st) μ) : Lt G p l e R s m args below meth c cc nL own ret nm Q cells slots pc lv (.long y :: .long x :: st) μ := fun C z H L ls h1 h2 h3 => lv_ldiv C.1 C.2.1 hd (grd_p hz) (by rw [Option.some.inj (grd_v hz)]; exact k C z H L ls h1 h2 h3)
theorem x_lrem {x y z : Int64} (hz : rmdL x y = some z) (hd : decode cc pc = .ok (.lrem, 1)) (k : Lt G p l e R s m args below meth c cc nL own ret nm Q cells slots (pc + 1) lv (.long z :: st) μ) : Lt G p l e R s m args below meth c cc nL own ret nm Q cells slots pc lv (.long y :: .long x :: st) μ := fun C z H L ls h1 h2 h3 => lv_lrem C.1 C.2.1 hd (grd_p hz) (by rw [Option.some.inj (grd_v hz)]; exact k C z H L ls h1 h2 h3)
theorem x_ladd {x y : Int64} (hd : decode cc pc = .ok (.ladd, 1)) (k : Lt G p l e R s m args below meth c cc nL own ret nm Q cells slots (pc + 1) lv (.long (x + y) :: st) μ) : Lt G p l e R s m args below meth c cc nL own ret nm Q cells slots pc lv (.long y :: .long x :: st) μ := fun C z H L ls h1 h2 h3 => lv_ladd C.1 C.2.1 hd (k C z H L ls h1 h2 h3)
theorem x_lmul {x y : Int64} (hd : decode cc pc = .ok (.lmul, 1)) (k : Lt G p l e R s m args below meth c cc nL own ret nm Q cells slots (pc + 1) lv (.long (x * y) :: st) μ) : Lt G p l e R s m args below meth c cc nL own ret nm Q cells slots pc lv (.long y :: .long x :: st) μ := fun C z H L ls h1 h2 h3 => lv_lmul C.1 C.2.1 hd (k C z H L ls h1 h2 h3)
theorem x_land {x y : Int64} (hd : decode cc pc = .ok (.land, 1)) (k : Lt G p l e R s m args below meth c cc nL own ret nm Q cells slots (pc + 1) lv (.long (x &&& y) :: st) μ) : Lt G p l e R s m args below meth c cc nL own ret nm Q cells slots pc lv (.long y :: .long x :: st) μ := fun C z H L ls h1 h2 h3 => lv_land C.1 C.2.1 hd (k C z H L ls h1 h2 h3)
theorem x_lor {x y : Int64} (hd : decode cc pc = .ok (.lor, 1)) (k : Lt G p l e R s m args below meth c cc nL own ret nm Q cells slots (pc + 1) lv (.long (x ||| y) :: st) μ) : Lt G p l e R s m args below meth c cc nL own ret nm Q cells slots pc lv (.long y :: .long x :: st) μ := fun C z H L ls h1 h2 h3 => lv_lor C.1 C.2.1 hd (k C z H L ls h1 h2 h3)
theorem x_lcmp {x y : Int64} (hd : decode cc pc = .ok (.lcmp, 1)) (k : Lt G p l e R s m args below meth c cc nL own ret nm Q cells slots (pc + 1) lv (.int (lg_cmp x y) :: st) μ) : Lt G p l e R s m args below meth c cc nL own ret nm Q cells slots pc lv (.long y :: .long x :: st) μ := fun C z H L ls h1 h2 h3 => W.lcmp C.1 C.2.1 hd (k C z H L ls h1 h2 h3)
theorem x_ishl {x y : Int32} (hd : decode cc pc = .ok (.ishl, 1)) (k : Lt G p l e R s m args below meth c cc nL own ret nm Q cells slots (pc + 1) lv (.int (x <<< (y &&& 31)) :: st) μ) : Lt G p l e R s m args below meth c cc nL own ret nm Q cells slots pc lv (.int y :: .int x :: st) μ := fun C z H L ls h1 h2 h3 => lv_ishl C.1 C.2.1 hd (k C z H L ls h1 h2 h3)
theorem x_ishr {x y : Int32} (hd : decode cc pc = .ok (.ishr, 1)) (k : Lt G p l e R s m args below meth c cc nL own ret nm Q cells slots (pc + 1) lv (.int (x >>> (y &&& 31)) :: st) μ) : Lt G p l e R s m args below meth c cc nL own ret nm Q cells slots pc lv (.int y :: .int x :: st) μ := fun C z H L ls h1 h2 h3 => lv_ishr C.1 C.2.1 hd (k C z H L ls h1 h2 h3)
theorem x_iushr {x y : Int32} (hd : decode cc pc = .ok (.iushr, 1)) (k : Lt G p l e R s m args below meth c cc nL own ret nm Q cells slots (pc + 1) lv (.int (x.toUInt32 >>> (y.toUInt32 &&& Int32.toUInt32 31)).toInt32 :: st) μ) : Lt G p l e R s m args below meth c cc nL own ret nm Q cells slots pc lv (.int y :: .int x :: st) μ := fun C z H L ls h1 h2 h3 => lv_iushr C.1 C.2.1 hd rfl (k C z H L ls h1 h2 h3)
theorem x_lshl {x : Int64} {y : Int32} (hd : decode cc pc = .ok (.lshl, 1)) (k : Lt G p l e R s m args below meth c cc nL own ret nm Q cells slots (pc + 1) lv (.long (x <<< (y.toInt64 &&& 63)) :: st) μ) : Lt G p l e R s m args below meth c cc nL own ret nm Q cells slots pc lv (.int y :: .long x :: st) μ := fun C z H L ls h1 h2 h3 => lv_lshl C.1 C.2.1 hd rfl (k C z H L ls h1 h2 h3)
theorem x_lshr {x : Int64} {y : Int32} (hd : decode cc pc = .ok (.lshr, 1)) (k : Lt G p l e R s m args below meth c cc nL own ret nm Q cells slots (pc + 1) lv (.long (x >>> (y.toInt64 &&& 63)) :: st) μ) : Lt G p l e R s m args below meth c cc nL own ret nm Q cells slots pc lv (.int y :: .long x :: st) μ := fun C z H L ls h1 h2 h3 => lv_lshr C.1 C.2.1 hd rfl (k C z H L ls h1 h2 h3)
theorem x_i2l {x : Int32} (hd : decode cc pc = .ok (.i2l, 1)) (k : Lt G p l e R s m args below meth c cc nL own ret nm Q cells slots (pc + 1) lv (.long x.toInt64 :: st) μ) : Lt G p l e R s m args below meth c cc nL own ret nm Q cells slots pc lv (.int x :: st) μ := fun C z H L ls h1 h2 h3 => lv_i2l C.1 C.2.1 hd rfl (k C z H L ls h1 h2 h3)
theorem x_l2i {x : Int64} (hd : decode cc pc = .ok (.l2i, 1)) (k : Lt G p l e R s m args below meth c cc nL own ret nm Q cells slots (pc + 1) lv (.int x.toInt32 :: st) μ) : Lt G p l e R s m args below meth c cc nL own ret nm Q cells slots pc lv (.long x :: st) μ := fun C z H L ls h1 h2 h3 => lv_l2i C.1 C.2.1 hd rfl (k C z H L ls h1 h2 h3)
theorem x_i2c {x : Int32} (hd : decode cc pc = .ok (.i2c, 1)) (k : Lt G p l e R s m args below meth c cc nL own ret nm Q cells slots (pc + 1) lv (.int (x.toUInt32 % 65536).toInt32 :: st) μ) : Lt G p l e R s m args below meth c cc nL own ret nm Q cells slots pc lv (.int x :: st) μ := fun C z H L ls h1 h2 h3 => lv_i2c C.1 C.2.1 hd rfl (k C z H L ls h1 h2 h3)
theorem x_dup {v : Value} (hd : decode cc pc = .ok (.dup, 1)) (hc : v.category = 1) (k : Lt G p l e R s m args below meth c cc nL own ret nm Q cells slots (pc + 1) lv (v :: v :: st) μ) : Lt G p l e R s m args below meth c cc nL own ret nm Q cells slots pc lv (v :: st) μ := fun C z H L ls h1 h2 h3 => lv_dup C.1 C.2.1 hd hc (k C z H L ls h1 h2 h3)
theorem x_pop {v : Value} (hd : decode cc pc = .ok (.pop, 1)) (hc : v.category = 1) (k : Lt G p l e R s m args below meth c cc nL own ret nm Q cells slots (pc + 1) lv st μ) : Lt G p l e R s m args below meth c cc nL own ret nm Q cells slots pc lv (v :: st) μ := fun C z H L ls h1 h2 h3 => lv_pop C.1 C.2.1 hd hc (k C z H L ls h1 h2 h3)
theorem x_dup2 {v w : Value} (hd : decode cc pc = .ok (.dup2, 1)) (hc : v.category = 1) (hw : w.category = 1) (k : Lt G p l e R s m args below meth c cc nL own ret nm Q cells slots (pc + 1) lv (v :: w :: v :: w :: st) μ) : Lt G p l e R s m args below meth c cc nL own ret nm Q cells slots pc lv (v :: w :: st) μ := fun C z H L ls h1 h2 h3 => lv_dup2_11 C.1 C.2.1 hd hc hw (k C z H L ls h1 h2 h3)
theorem x_dup_x1 {v w : Value} (hd : decode cc pc = .ok (.dup_x1, 1)) (hc : v.category = 1) (hw : w.category = 1) (k : Lt G p l e R s m args below meth c cc nL own ret nm Q cells slots (pc + 1) lv (v :: w :: v :: st) μ) : Lt G p l e R s m args below meth c cc nL own ret nm Q cells slots pc lv (v :: w :: st) μ := fun C z H L ls h1 h2 h3 => lv_dup_x1 C.1 C.2.1 hd hc hw (k C z H L ls h1 h2 h3)
theorem x_if_eq {x : Int32} {off : Int} (tgt : Nat) (hd : decode cc pc = .ok (.ifCond .eq off, 3)) (ht : (pc : Int) + off = (tgt : Int)) (kt : x = 0 → Lt G p l e R s m args below meth c cc nL own ret nm Q cells slots tgt lv st μ) (kf : ¬ x = 0 → Lt G p l e R s m args below meth c cc nL own ret nm Q cells slots (pc + 3) lv st μ) : Lt G p l e R s m args below meth c cc nL own ret nm Q cells slots pc lv (.int x :: st) μ := fun C z H L ls h1 h2 h3 => lv_if_eq C.1 C.2.1 hd ht (fun q => kt q C z H L ls h1 h2 h3) (fun q => kf q C z H L ls h1 h2 h3)
theorem x_icmp_eq {x y : Int32} {off : Int} (tgt : Nat) (hd : decode cc pc = .ok (.if_icmp .eq off, 3)) (ht : (pc : Int) + off = (tgt : Int)) (kt : x = y → Lt G p l e R s m args below meth c cc nL own ret nm Q cells slots tgt lv st μ) (kf : ¬ x = y → Lt G p l e R s m args below meth c cc nL own ret nm Q cells slots (pc + 3) lv st μ) : Lt G p l e R s m args below meth c cc nL own ret nm Q cells slots pc lv (.int y :: .int x :: st) μ := fun C z H L ls h1 h2 h3 => lv_icmp_eq C.1 C.2.1 hd ht (fun q => kt q C z H L ls h1 h2 h3) (fun q => kf q C z H L ls h1 h2 h3)
theorem x_if_ne {x : Int32} {off : Int} (tgt : Nat) (hd : decode cc pc = .ok (.ifCond .ne off, 3)) (ht : (pc : Int) + off = (tgt : Int)) (kt : ¬ x = 0 → Lt G p l e R s m args below meth c cc nL own ret nm Q cells slots tgt lv st μ) (kf : x = 0 → Lt G p l e R s m args below meth c cc nL own ret nm Q cells slots (pc + 3) lv st μ) : Lt G p l e R s m args below meth c cc nL own ret nm Q cells slots pc lv (.int x :: st) μ := fun C z H L ls h1 h2 h3 => lv_if_ne C.1 C.2.1 hd ht (fun q => kt q C z H L ls h1 h2 h3) (fun q => kf q C z H L ls h1 h2 h3)
theorem x_icmp_ne {x y : Int32} {off : Int} (tgt : Nat) (hd : decode cc pc = .ok (.if_icmp .ne off, 3)) (ht : (pc : Int) + off = (tgt : Int)) (kt : ¬ x = y → Lt G p l e R s m args below meth c cc nL own ret nm Q cells slots tgt lv st μ) (kf : x = y → Lt G p l e R s m args below meth c cc nL own ret nm Q cells slots (pc + 3) lv st μ) : Lt G p l e R s m args below meth c cc nL own ret nm Q cells slots pc lv (.int y :: .int x :: st) μ := fun C z H L ls h1 h2 h3 => lv_icmp_ne C.1 C.2.1 hd ht (fun q => kt q C z H L ls h1 h2 h3) (fun q => kf q C z H L ls h1 h2 h3)
theorem x_if_lt {x : Int32} {off : Int} (tgt : Nat) (hd : decode cc pc = .ok (.ifCond .lt off, 3)) (ht : (pc : Int) + off = (tgt : Int)) (kt : x < 0 → Lt G p l e R s m args below meth c cc nL own ret nm Q cells slots tgt lv st μ) (kf : ¬ x < 0 → Lt G p l e R s m args below meth c cc nL own ret nm Q cells slots (pc + 3) lv st μ) : Lt G p l e R s m args below meth c cc nL own ret nm Q cells slots pc lv (.int x :: st) μ := fun C z H L ls h1 h2 h3 => lv_if_lt C.1 C.2.1 hd ht (fun q => kt q C z H L ls h1 h2 h3) (fun q => kf q C z H L ls h1 h2 h3)
theorem x_icmp_lt {x y : Int32} {off : Int} (tgt : Nat) (hd : decode cc pc = .ok (.if_icmp .lt off, 3)) (ht : (pc : Int) + off = (tgt : Int)) (kt : x < y → Lt G p l e R s m args below meth c cc nL own ret nm Q cells slots tgt lv st μ) (kf : ¬ x < y → Lt G p l e R s m args below meth c cc nL own ret nm Q cells slots (pc + 3) lv st μ) : Lt G p l e R s m args below meth c cc nL own ret nm Q cells slots pc lv (.int y :: .int x :: st) μ := fun C z H L ls h1 h2 h3 => lv_icmp_lt C.1 C.2.1 hd ht (fun q => kt q C z H L ls h1 h2 h3) (fun q => kf q C z H L ls h1 h2 h3)
theorem x_if_ge {x : Int32} {off : Int} (tgt : Nat) (hd : decode cc pc = .ok (.ifCond .ge off, 3)) (ht : (pc : Int) + off = (tgt : Int)) (kt : 0 ≤ x → Lt G p l e R s m args below meth c cc nL own ret nm Q cells slots tgt lv st μ) (kf : ¬ 0 ≤ x → Lt G p l e R s m args below meth c cc nL own ret nm Q cells slots (pc + 3) lv st μ) : Lt G p l e R s m args below meth c cc nL own ret nm Q cells slots pc lv (.int x :: st) μ := fun C z H L ls h1 h2 h3 => lv_if_ge C.1 C.2.1 hd ht (fun q => kt q C z H L ls h1 h2 h3) (fun q => kf q C z H L ls h1 h2 h3)
theorem x_icmp_ge {x y : Int32} {off : Int} (tgt : Nat) (hd : decode cc pc = .ok (.if_icmp .ge off, 3)) (ht : (pc : Int) + off = (tgt : Int)) (kt : y ≤ x → Lt G p l e R s m args below meth c cc nL own ret nm Q cells slots tgt lv st μ) (kf : ¬ y ≤ x → Lt G p l e R s m args below meth c cc nL own ret nm Q cells slots (pc + 3) lv st μ) : Lt G p l e R s m args below meth c cc nL own ret nm Q cells slots pc lv (.int y :: .int x :: st) μ := fun C z H L ls h1 h2 h3 => lv_icmp_ge C.1 C.2.1 hd ht (fun q => kt q C z H L ls h1 h2 h3) (fun q => kf q C z H L ls h1 h2 h3)
theorem x_if_gt {x : Int32} {off : Int} (tgt : Nat) (hd : decode cc pc = .ok (.ifCond .gt off, 3)) (ht : (pc : Int) + off = (tgt : Int)) (kt : 0 < x → Lt G p l e R s m args below meth c cc nL own ret nm Q cells slots tgt lv st μ) (kf : ¬ 0 < x → Lt G p l e R s m args below meth c cc nL own ret nm Q cells slots (pc + 3) lv st μ) : Lt G p l e R s m args below meth c cc nL own ret nm Q cells slots pc lv (.int x :: st) μ := fun C z H L ls h1 h2 h3 => lv_if_gt C.1 C.2.1 hd ht (fun q => kt q C z H L ls h1 h2 h3) (fun q => kf q C z H L ls h1 h2 h3)
theorem x_icmp_gt {x y : Int32} {off : Int} (tgt : Nat) (hd : decode cc pc = .ok (.if_icmp .gt off, 3)) (ht : (pc : Int) + off = (tgt : Int)) (kt : y < x → Lt G p l e R s m args below meth c cc nL own ret nm Q cells slots tgt lv st μ) (kf : ¬ y < x → Lt G p l e R s m args below meth c cc nL own ret nm Q cells slots (pc + 3) lv st μ) : Lt G p l e R s m args below meth c cc nL own ret nm Q cells slots pc lv (.int y :: .int x :: st) μ := fun C z H L ls h1 h2 h3 => lv_icmp_gt C.1 C.2.1 hd ht (fun q => kt q C z H L ls h1 h2 h3) (fun q => kf q C z H L ls h1 h2 h3)
theorem x_if_le {x : Int32} {off : Int} (tgt : Nat) (hd : decode cc pc = .ok (.ifCond .le off, 3)) (ht : (pc : Int) + off = (tgt : Int)) (kt : x ≤ 0 → Lt G p l e R s m args below meth c cc nL own ret nm Q cells slots tgt lv st μ) (kf : ¬ x ≤ 0 → Lt G p l e R s m args below meth c cc nL own ret nm Q cells slots (pc + 3) lv st μ) : Lt G p l e R s m args below meth c cc nL own ret nm Q cells slots pc lv (.int x :: st) μ := fun C z H L ls h1 h2 h3 => lv_if_le C.1 C.2.1 hd ht (fun q => kt q C z H L ls h1 h2 h3) (fun q => kf q C z H L ls h1 h2 h3)
theorem x_icmp_le {x y : Int32} {off : Int} (tgt : Nat) (hd : decode cc pc = .ok (.if_icmp .le off, 3)) (ht : (pc : Int) + off = (tgt : Int)) (kt : x ≤ y → Lt G p l e R s m args below meth c cc nL own ret nm Q cells slots tgt lv st μ) (kf : ¬ x ≤ y → Lt G p l e R s m args below meth c cc nL own ret nm Q cells slots (pc + 3) lv st μ) : Lt G p l e R s m args below meth c cc nL own ret nm Q cells slots pc lv (.int y :: .int x :: st) μ := fun C z H L ls h1 h2 h3 => lv_icmp_le C.1 C.2.1 hd ht (fun q => kt q C z H L ls h1 h2 h3) (fun q => kf q C z H L ls h1 h2 h3)
theorem x_goto {off : Int} (tgt : Nat) (hd : decode cc pc = .ok (.goto off, 3)) (ht : (pc : Int) + off = (tgt : Int)) (k : Lt G p l e R s m args below meth c cc nL own ret nm Q cells slots tgt lv st μ) : Lt G p l e R s m args below meth c cc nL own ret nm Q cells slots pc lv st μ := fun C z H L ls h1 h2 h3 => lv_goto C.1 C.2.1 hd ht (k C z H L ls h1 h2 h3)
theorem x_ifnonnull {x : Nat} {off : Int} (tgt : Nat) (hd : decode cc pc = .ok (.ifnonnull off, 3)) (ht : (pc : Int) + off = (tgt : Int)) (k : Lt G p l e R s m args below meth c cc nL own ret nm Q cells slots tgt lv st μ) : Lt G p l e R s m args below meth c cc nL own ret nm Q cells slots pc lv (.ref x :: st) μ := fun C z H L ls h1 h2 h3 => lv_ifnonnull C.1 C.2.1 hd ht (k C z H L ls h1 h2 h3)
theorem x_ifnonnullN {off : Int} (hd : decode cc pc = .ok (.ifnonnull off, 3)) (k : Lt G p l e R s m args below meth c cc nL own ret nm Q cells slots (pc + 3) lv st μ) : Lt G p l e R s m args below meth c cc nL own ret nm Q cells slots pc lv (.null :: st) μ := fun C z H L ls h1 h2 h3 => lv_ifnonnullN C.1 C.2.1 hd (k C z H L ls h1 h2 h3)
theorem x_tableOut {dflt lo hi : Int} {offs : Array Int} {len : Nat} {x : Int32} (tgt : Nat) (hd : decode cc pc = .ok (.tableswitch dflt lo hi offs, len)) (h : x.toInt < lo ∨ hi < x.toInt) (ht : (pc : Int) + dflt = (tgt : Int)) (k : Lt G p l e R s m args below meth c cc nL own ret nm Q cells slots tgt lv st μ) : Lt G p l e R s m args below meth c cc nL own ret nm Q cells slots pc lv (.int x :: st) μ := fun C z H L ls h1 h2 h3 => lv_tableOut C.1 C.2.1 hd h ht (k C z H L ls h1 h2 h3)
theorem x_tableIn {dflt lo hi : Int} {offs : Array Int} {len : Nat} {x : Int32} {off : Int} (tgt : Nat) (hd : decode cc pc = .ok (.tableswitch dflt lo hi offs, len)) (ha : ¬ x.toInt < lo) (hb : ¬ hi < x.toInt) (ho : offs[(x.toInt - lo).toNat]? = some off) (ht : (pc : Int) + off = (tgt : Int)) (k : Lt G p l e R s m args below meth c cc nL own ret nm Q cells slots tgt lv st μ) : Lt G p l e R s m args below meth c cc nL own ret nm Q cells slots pc lv (.int x :: st) μ := fun C z H L ls h1 h2 h3 => lv_tableIn C.1 C.2.1 hd ha hb ho ht (k C z H L ls h1 h2 h3)
theorem x_lookup {dflt : Int} {ps : Array (Int × Int)} {len : Nat} {x : Int32} {off : Int} (tgt : Nat) (hd : decode cc pc = .ok (.lookupswitch dflt ps, len)) (hp : (ps.toList.zip (ps.toList.drop 1)).all (fun (a, next) => a.1 < next.1) = true) (ho : Op.lookupswitch.offset ps.toList dflt x.toInt = off) (ht : (pc : Int) + off = (tgt : Int)) (k : Lt G p l e R s m args below meth c cc nL own ret nm Q cells slots tgt lv st μ) : Lt G p l e R s m args below meth c cc nL own ret nm Q cells slots pc lv (.int x :: st) μ := fun C z H L ls h1 h2 h3 => lv_lookup C.1 C.2.1 hd hp ho ht (k C z H L ls h1 h2 h3)
theorem tsw_out {x : Int32} (N : Nat) (hN : N < 2 ^ 31) (h : ∀ j : Nat, j < N → ¬ x = nI j) : x.toInt < 0 ∨ ((N : Int) - 1) < x.toInt := by
  by_cases h0 : x.toInt < 0
  · exact Or.inl h0
  · right
    have h1 : ¬ x < 0 := by rw [Int32.lt_iff_toInt_lt, Int32.toInt_zero]; exact h0
    obtain ⟨j, hj, rfl⟩ := nI_of h1
    rw [nI_toInt hj]
    by_cases hq : j < N
    · exact absurd rfl (h j hq)
    · omega
end XR
end
section
section XH
variable {G : Gm} {p : Program} {l : Launch} {e : Env} {R : Room} {s : State} {m : MethodId} {args : Array Value} {below : List Frame} {meth : Method} {c : Code} {cc : ByteArray} {nL : Nat} {own : String} {ret : Option FieldType} {nm : String} {Q : State → Prop} {cells slots pc : Nat} {lv lv' : List (Nat × Value)} {st rest : List Value} {μ μ' : Mu}
/-- the words of a field's link: the field's place in its object -/
def FW (own : String) (idx ci k : Nat) : Prop := Cond.fieldLink own idx ((kT ci).2.1 k).1 ((kT ci).2.1 k).2.1 ((kT ci).2.1 k).2.2.1 ∈ TB
theorem o_at {G : Gm} {μ : Mu} {a ci : Nat} (h : isO ci a μ) (hc : ci < 8) : (wsOf G μ)[a]? = some (gB G + a, .inr (ci, fs (gB G) μ a ci)) := by rw [ws_at h.1, cell_o h.2 hc]
theorem x_getI {a i ci k : Nat} {x : Int32} (hw : FW own i ci k) (hc : ci < 8) (hk : k < (kT ci).2.2) (hty : kF ci k = .int) (hg : gI ci a k μ = some x) (hd : decode cc pc = .ok (.getfield i, 3)) (kk : Lt G p l e R s m args below meth c cc nL own ret nm Q cells slots (pc + 3) lv (.int x :: st) μ) : Lt G p l e R s m args below meth c cc nL own ret nm Q cells slots pc lv (.ref (gB G + a) :: st) μ := by
  intro C z H L ls h1 h2 h3
  have ho := grd_p hg
  refine va_get (D := G.1) (cl := vwCl) (tys := tysOf G) (T := (kT ci).2.1) (C := (kT ci).1) (N := (kT ci).2.2) C.1 C.2.1 C.2.2.2.2.1 (clok hc).2.1 C.2.2.2.1 C.2.2.2.2.2.1.1 h1 a (o_at ho hc) (clok hc).1 k hk (C.2.2.2.2.1 _ hw) (fun _ q => q) (v := .int x) ?_ hd (kk C z H L ls h1 h2 h3)
  rw [fs_get hk]
  rw [hty, ← Option.some.inj (grd_v hg)]; rfl
theorem x_getL {a i ci k : Nat} {x : Int64} (hw : FW own i ci k) (hc : ci < 8) (hk : k < (kT ci).2.2) (hty : kF ci k = .long) (hg : gL ci a k μ = some x) (hd : decode cc pc = .ok (.getfield i, 3)) (kk : Lt G p l e R s m args below meth c cc nL own ret nm Q cells slots (pc + 3) lv (.long x :: st) μ) : Lt G p l e R s m args below meth c cc nL own ret nm Q cells slots pc lv (.ref (gB G + a) :: st) μ := by
  intro C z H L ls h1 h2 h3
  have ho := grd_p hg
  refine va_get (D := G.1) (cl := vwCl) (tys := tysOf G) (T := (kT ci).2.1) (C := (kT ci).1) (N := (kT ci).2.2) C.1 C.2.1 C.2.2.2.2.1 (clok hc).2.1 C.2.2.2.1 C.2.2.2.2.2.1.1 h1 a (o_at ho hc) (clok hc).1 k hk (C.2.2.2.2.1 _ hw) (fun _ q => q) (v := .long x) ?_ hd (kk C z H L ls h1 h2 h3)
  rw [fs_get hk]
  rw [hty, ← Option.some.inj (grd_v hg)]; rfl
theorem x_getR {a i ci k : Nat} {x : Nat} (hw : FW own i ci k) (hc : ci < 8) (hk : k < (kT ci).2.2) (hty : isRf (kF ci k) = true) (hg : gR ci a k μ = some x) (hd : decode cc pc = .ok (.getfield i, 3)) (kk : Lt G p l e R s m args below meth c cc nL own ret nm Q cells slots (pc + 3) lv (.ref (gB G + x) :: st) μ) : Lt G p l e R s m args below meth c cc nL own ret nm Q cells slots pc lv (.ref (gB G + a) :: st) μ := by
  intro C z H L ls h1 h2 h3
  have ho := grd_p hg
  refine va_get (D := G.1) (cl := vwCl) (tys := tysOf G) (T := (kT ci).2.1) (C := (kT ci).1) (N := (kT ci).2.2) C.1 C.2.1 C.2.2.2.2.1 (clok hc).2.1 C.2.2.2.1 C.2.2.2.2.2.1.1 h1 a (o_at ho hc) (clok hc).1 k hk (C.2.2.2.2.1 _ hw) (fun _ q => q) (v := .ref (gB G + x)) ?_ hd (kk C z H L ls h1 h2 h3)
  rw [fs_get hk]
  rw [fv_rf hty, grd_v hg]; rfl
theorem nar_rf {ty : FieldType} {a : Nat} (h : isRf ty = true) : narrow ty (.ref a) = .ref a := by cases ty <;> first | rfl | simp [isRf] at h
theorem fit_rf {ty : FieldType} {a : Nat} (h : isRf ty = true) : fits ty (.ref a) = true := by cases ty <;> first | rfl | simp [isRf] at h
theorem x_putI {a i ci k : Nat} {x : Int32} (hw : FW own i ci k) (hc : ci < 8) (hk : k < (kT ci).2.2) (hty : kF ci k = .int) (hfin : ((kT ci).2.1 k).2.2.2 = false) (hg : pI ci a k x μ = some μ') (hd : decode cc pc = .ok (.putfield i, 3)) (kk : Lt G p l e R s m args below meth c cc nL own ret nm Q cells slots (pc + 3) lv st μ') : Lt G p l e R s m args below meth c cc nL own ret nm Q cells slots pc lv ((.int x) :: .ref (gB G + a) :: st) μ := by
  intro C z H L ls h1 h2 h3
  have ho := grd_p hg
  have hμ : si μ a k x = μ' := Option.some.inj (grd_v hg)
  refine va_put (D := G.1) (cl := vwCl) (tys := tysOf G) (T := (kT ci).2.1) (C := (kT ci).1) (N := (kT ci).2.2) (ty := kF ci k) (A := fA G) C.1 C.2.1 C.2.2.2.2.1 (clok hc).2.1 (kF ci) (clok hc).2.2.1 (clok hc).2.2.2 C.2.2.2.1 C.2.2.2.2.2.1.1 h1 (ws_D G μ) h2 a (o_at ho hc) (clok hc).1 k hk (C.2.2.2.2.1 _ hw) (fun _ q => q) hfin ((clok hc).2.2.1 k hk) (by rw [hty]; rfl) (by rw [hty]; rfl) (by simpa [fs] using hk) hd ?_
  intro H1 L1 p1 p2 p3
  have hs : (wsOf G μ).set a (gB G + a, .inr (ci, (fs (gB G) μ a ci).set k (.int x))) = wsOf G μ' := by
    subst hμ
    refine ws_set rfl (fun c' q => cell_si q) ?_
    rw [cell_o ho.2 hc, fs_set (μ' := si μ a k x) (v := (.int x)) (k := k) ?_ (fun j q => fv_si q)]
    rw [hty]; show Value.int _ = _; simp [si, m2_at]
  rw [hs] at p1
  exact kk C (by subst hμ; exact z) H1 L1 ls p1 p3 h3
theorem x_putL {a i ci k : Nat} {x : Int64} (hw : FW own i ci k) (hc : ci < 8) (hk : k < (kT ci).2.2) (hty : kF ci k = .long) (hfin : ((kT ci).2.1 k).2.2.2 = false) (hg : pL ci a k x μ = some μ') (hd : decode cc pc = .ok (.putfield i, 3)) (kk : Lt G p l e R s m args below meth c cc nL own ret nm Q cells slots (pc + 3) lv st μ') : Lt G p l e R s m args below meth c cc nL own ret nm Q cells slots pc lv ((.long x) :: .ref (gB G + a) :: st) μ := by
  intro C z H L ls h1 h2 h3
  have ho := grd_p hg
  have hμ : sl μ a k x = μ' := Option.some.inj (grd_v hg)
  refine va_put (D := G.1) (cl := vwCl) (tys := tysOf G) (T := (kT ci).2.1) (C := (kT ci).1) (N := (kT ci).2.2) (ty := kF ci k) (A := fA G) C.1 C.2.1 C.2.2.2.2.1 (clok hc).2.1 (kF ci) (clok hc).2.2.1 (clok hc).2.2.2 C.2.2.2.1 C.2.2.2.2.2.1.1 h1 (ws_D G μ) h2 a (o_at ho hc) (clok hc).1 k hk (C.2.2.2.2.1 _ hw) (fun _ q => q) hfin ((clok hc).2.2.1 k hk) (by rw [hty]; rfl) (by rw [hty]; rfl) (by simpa [fs] using hk) hd ?_
  intro H1 L1 p1 p2 p3
  have hs : (wsOf G μ).set a (gB G + a, .inr (ci, (fs (gB G) μ a ci).set k (.long x))) = wsOf G μ' := by
    subst hμ
    refine ws_set rfl (fun c' q => cell_sl q) ?_
    rw [cell_o ho.2 hc, fs_set (μ' := sl μ a k x) (v := (.long x)) (k := k) ?_ (fun j q => fv_sl q)]
    rw [hty]; show Value.long _ = _; simp [sl, m2_at]
  rw [hs] at p1
  exact kk C (by subst hμ; exact z) H1 L1 ls p1 p3 h3
theorem x_putRF {a i ci k : Nat} {x : Nat} (hw : FW own i ci k) (hc : ci < 8) (hk : k < (kT ci).2.2) (hty : isRf (kF ci k) = true) (hfin : ((kT ci).2.1 k).2.2.2 = true) (hnm : nm = "<init>") (hdc : ((kT ci).2.1 k).1 = own) (hg : pR ci a k x μ = some μ') (hd : decode cc pc = .ok (.putfield i, 3)) (kk : Lt G p l e R s m args below meth c cc nL own ret nm Q cells slots (pc + 3) lv st μ') : Lt G p l e R s m args below meth c cc nL own ret nm Q cells slots pc lv ((.ref (gB G + x)) :: .ref (gB G + a) :: st) μ := by
  intro C z H L ls h1 h2 h3
  have ho := grd_p hg
  have hμ : sr μ a k (some x) = μ' := Option.some.inj (grd_v hg)
  refine va_putF (D := G.1) (cl := vwCl) (tys := tysOf G) (T := (kT ci).2.1) (C := (kT ci).1) (N := (kT ci).2.2) (ty := kF ci k) (A := fA G) C.1 C.2.1 C.2.2.2.2.1 (clok hc).2.1 (kF ci) (clok hc).2.2.1 (clok hc).2.2.2 C.2.2.2.1 C.2.2.2.2.2.1.1 h1 (ws_D G μ) h2 a (o_at ho hc) (clok hc).1 k hk (C.2.2.2.2.1 _ hw) (fun _ q => q) hfin (by rw [C.2.2.2.2.2.2.2.2.2]; exact hnm) hdc ((clok hc).2.2.1 k hk) (nar_rf hty) (fit_rf hty) (by simpa [fs] using hk) hd ?_
  intro H1 L1 p1 p2 p3
  have hs : (wsOf G μ).set a (gB G + a, .inr (ci, (fs (gB G) μ a ci).set k (.ref (gB G + x)))) = wsOf G μ' := by
    subst hμ
    refine ws_set rfl (fun c' q => cell_sr q) ?_
    rw [cell_o ho.2 hc, fs_set (μ' := sr μ a k (some x)) (v := (.ref (gB G + x))) (k := k) ?_ (fun j q => fv_sr q)]
    rw [fv_rf hty]; simp [sr, m2_at, va_rf]
  rw [hs] at p1
  exact kk C (by subst hμ; exact z) H1 L1 ls p1 p3 h3
/-- what the machine's own count says of the heap's size -/
theorem W_sz {H : Heap} {locs : List Loc} {g : JFrame} (k : H.size ≤ s.heap.size + cells → W p l e R s m args below meth c H locs cells slots Q g) : W p l e R s m args below meth c H locs cells slots Q g := fun T hT X => k (by rw [← hT]; exact X.heapSize) T hT X
theorem Hp_sz {H : Heap} {locs : List Loc} (hg : gB G ≤ s.heap.size) (z : s.heap.size + cells = gB G + μ.1) (h1 : Hp G μ H) (h2 : va_S (fA G) s.heap H locs) (h : H.size ≤ s.heap.size + cells) : H.size = gB G + μ.1 := by
  have h4 := h2.1
  cases hn : μ.1 with
  | zero => omega
  | succ k =>
    have h5 := (h1 k _ (ws_at (by omega))).lt
    dsimp only at h5
    omega
theorem a_8 {a : Nat} (h : isO 8 a μ) : (wsOf G μ)[a]? = some (gB G + a, .inl (G.2.1, (sh a).2, .inl (μ.2.1 a))) := by rw [ws_at h.1, cell_8 h.2]
theorem a_9 {a : Nat} (h : isO 9 a μ) : (wsOf G μ)[a]? = some (gB G + a, .inl (G.2.2.1, (sh a).2, .inl (μ.2.1 a))) := by rw [ws_at h.1, cell_9 h.2]
theorem a_10 {a : Nat} (h : isO 10 a μ) : (wsOf G μ)[a]? = some (gB G + a, .inl (G.2.2.2.1, (sh a).2, .inl (μ.2.1 a))) := by rw [ws_at h.1, cell_10 h.2]
theorem a_11 {a : Nat} (h : isO 11 a μ) : (wsOf G μ)[a]? = some (gB G + a, .inl (G.2.2.2.2.1, (sh a).2, .inr (.inr (.inr (.inr (fun k => (μ.2.2.2 a k).map (fun b => gB G + b))))))) := by rw [ws_at h.1, cell_11 h.2]
theorem x_iald {a : Nat} {i x : Int32} (hg : aI 8 a i μ = some x) (hd : decode cc pc = .ok (.iaload, 1)) (kk : Lt G p l e R s m args below meth c cc nL own ret nm Q cells slots (pc + 1) lv (.int x :: st) μ) : Lt G p l e R s m args below meth c cc nL own ret nm Q cells slots pc lv (.int i :: .ref (gB G + a) :: st) μ := by
  intro C z H L ls h1 h2 h3
  have ho := grd_p hg
  refine va_iald C.1 C.2.1 C.2.2.2.2.2.1.1 h1 a 0 (a_8 ho.1) rfl (inb_p ho.2) hd ?_
  rw [Option.some.inj (grd_v hg)]
  exact kk C z H L ls h1 h2 h3
theorem x_cald {a : Nat} {i x : Int32} (hg : aI 9 a i μ = some x) (hd : decode cc pc = .ok (.caload, 1)) (kk : Lt G p l e R s m args below meth c cc nL own ret nm Q cells slots (pc + 1) lv (.int x :: st) μ) : Lt G p l e R s m args below meth c cc nL own ret nm Q cells slots pc lv (.int i :: .ref (gB G + a) :: st) μ := by
  intro C z H L ls h1 h2 h3
  have ho := grd_p hg
  refine va_cald C.1 C.2.1 C.2.2.2.2.2.1.1 h1 a 1 (a_9 ho.1) rfl (inb_p ho.2) hd ?_
  rw [Option.some.inj (grd_v hg)]
  exact kk C z H L ls h1 h2 h3
theorem x_zald {a : Nat} {i x : Int32} (hg : aI 10 a i μ = some x) (hd : decode cc pc = .ok (.baload, 1)) (kk : Lt G p l e R s m args below meth c cc nL own ret nm Q cells slots (pc + 1) lv (.int x :: st) μ) : Lt G p l e R s m args below meth c cc nL own ret nm Q cells slots pc lv (.int i :: .ref (gB G + a) :: st) μ := by
  intro C z H L ls h1 h2 h3
  have ho := grd_p hg
  refine va_zald C.1 C.2.1 C.2.2.2.2.2.1.1 h1 a 2 (a_10 ho.1) rfl (inb_p ho.2) hd ?_
  rw [Option.some.inj (grd_v hg)]
  exact kk C z H L ls h1 h2 h3
theorem x_aald {a : Nat} {i : Int32} {x : Nat} (hg : aR a i μ = some x) (hd : decode cc pc = .ok (.aaload, 1)) (kk : Lt G p l e R s m args below meth c cc nL own ret nm Q cells slots (pc + 1) lv (.ref (gB G + x) :: st) μ) : Lt G p l e R s m args below meth c cc nL own ret nm Q cells slots pc lv (.int i :: .ref (gB G + a) :: st) μ := by
  intro C z H L ls h1 h2 h3
  have ho := grd_p hg
  refine va_aldq C.1 C.2.1 C.2.2.2.2.2.1.1 h1 a 3 (a_11 ho.1) rfl (inb_p ho.2) hd ?_
  rw [grd_v hg]
  exact kk C z H L ls h1 h2 h3
theorem upd_si {f : Nat → Nat → Int32} {a k : Nat} {x : Int32} : upd (f a) k x = m2 f a k x a := by
  funext j
  by_cases h : j = k <;> simp [upd, m2, h]
theorem x_iast {a : Nat} {i x : Int32} (hg : bI 8 a i x μ = some μ') (hd : decode cc pc = .ok (.iastore, 1)) (kk : Lt G p l e R s m args below meth c cc nL own ret nm Q cells slots (pc + 1) lv st μ') : Lt G p l e R s m args below meth c cc nL own ret nm Q cells slots pc lv (.int x :: .int i :: .ref (gB G + a) :: st) μ := by
  intro C z H L ls h1 h2 h3
  have ho := grd_p hg
  have hμ : si μ a i.toNatClampNeg x = μ' := Option.some.inj (grd_v hg)
  subst hμ
  refine va_iast (A := fA G) C.1 C.2.1 C.2.2.2.2.2.1.1 h1 (ws_D G μ) h2 a 0 (a_8 ho.1) rfl (inb_p ho.2) hd ?_
  intro H1 L1 p1 p2 p3
  rw [ws_set (G := G) (μ := μ) (c := a) (μ' := si μ a i.toNatClampNeg x) rfl (fun c' q => cell_si q) (by rw [cell_8 ho.1.2, upd_si]; rfl)] at p1
  exact kk C z H1 L1 ls p1 p3 h3
theorem x_cast {a : Nat} {i x : Int32} (hg : bI 9 a i x μ = some μ') (hd : decode cc pc = .ok (.castore, 1)) (kk : Lt G p l e R s m args below meth c cc nL own ret nm Q cells slots (pc + 1) lv st μ') : Lt G p l e R s m args below meth c cc nL own ret nm Q cells slots pc lv (.int x :: .int i :: .ref (gB G + a) :: st) μ := by
  intro C z H L ls h1 h2 h3
  have ho := grd_p hg
  have hμ : si μ a i.toNatClampNeg (vp_nar .char x) = μ' := Option.some.inj (grd_v hg)
  subst hμ
  refine va_cast (A := fA G) C.1 C.2.1 C.2.2.2.2.2.1.1 h1 (ws_D G μ) h2 a 1 (a_9 ho.1) rfl (inb_p ho.2) hd ?_
  intro H1 L1 p1 p2 p3
  rw [ws_set (G := G) (μ := μ) (c := a) (μ' := si μ a i.toNatClampNeg (vp_nar .char x)) rfl (fun c' q => cell_si q) (by rw [cell_9 ho.1.2, upd_si]; rfl)] at p1
  exact kk C z H1 L1 ls p1 p3 h3
theorem x_zast {a : Nat} {i x : Int32} (hg : bI 10 a i x μ = some μ') (hd : decode cc pc = .ok (.bastore, 1)) (kk : Lt G p l e R s m args below meth c cc nL own ret nm Q cells slots (pc + 1) lv st μ') : Lt G p l e R s m args below meth c cc nL own ret nm Q cells slots pc lv (.int x :: .int i :: .ref (gB G + a) :: st) μ := by
  intro C z H L ls h1 h2 h3
  have ho := grd_p hg
  have hμ : si μ a i.toNatClampNeg (vp_nar .boolean x) = μ' := Option.some.inj (grd_v hg)
  subst hμ
  refine va_zast (A := fA G) C.1 C.2.1 C.2.2.2.2.2.1.1 h1 (ws_D G μ) h2 a 2 (a_10 ho.1) rfl (inb_p ho.2) hd ?_
  intro H1 L1 p1 p2 p3
  rw [ws_set (G := G) (μ := μ) (c := a) (μ' := si μ a i.toNatClampNeg (vp_nar .boolean x)) rfl (fun c' q => cell_si q) (by rw [cell_10 ho.1.2, upd_si]; rfl)] at p1
  exact kk C z H1 L1 ls p1 p3 h3
theorem x_aast {a : Nat} {i : Int32} {x : Nat} (hg : bR a i x μ = some μ') (hd : decode cc pc = .ok (.aastore, 1)) (kk : Lt G p l e R s m args below meth c cc nL own ret nm Q cells slots (pc + 1) lv st μ') : Lt G p l e R s m args below meth c cc nL own ret nm Q cells slots pc lv (.ref (gB G + x) :: .int i :: .ref (gB G + a) :: st) μ := by
  intro C z H L ls h1 h2 h3
  have ho := grd_p hg
  have hμ : sr μ a i.toNatClampNeg (some x) = μ' := Option.some.inj (grd_v hg)
  subst hμ
  refine va_astq (A := fA G) (r := kT 0) C.1 C.2.1 C.2.2.2.2.2.1.1 h1 (ws_D G μ) h2 a 3 x 0 (a_11 ho.1.1) rfl (o_at ho.2 (by decide)) rfl (inb_p ho.1.2) hd ?_
  intro H1 L1 p1 p2 p3
  have hs : (wsOf G μ).set a (gB G + a, .inl (G.2.2.2.2.1, (sh a).2, .inr (.inr (.inr (.inr (va_up (fun k => (μ.2.2.2 a k).map (fun b => gB G + b)) i.toNatClampNeg (some (gB G + x)))))))) = wsOf G (sr μ a i.toNatClampNeg (some x)) := by
    refine ws_set rfl (fun c' q => cell_sr q) ?_
    have hf : va_up (fun k => (μ.2.2.2 a k).map (fun b => gB G + b)) i.toNatClampNeg (some (gB G + x)) = fun k => ((sr μ a i.toNatClampNeg (some x)).2.2.2 a k).map (fun b => gB G + b) := by
      funext j
      by_cases h : j = i.toNatClampNeg <;> simp [va_up, sr, m2, h]
    rw [cell_11 ho.1.1.2, hf]
  rw [hs] at p1
  exact kk C z H1 L1 ls p1 p3 h3
theorem x_alenG {a : Nat} {x : Int32} (hg : aN 11 a μ = some x) (hd : decode cc pc = .ok (.arraylength, 1)) (kk : Lt G p l e R s m args below meth c cc nL own ret nm Q cells slots (pc + 1) lv (.int x :: st) μ) : Lt G p l e R s m args below meth c cc nL own ret nm Q cells slots pc lv (.ref (gB G + a) :: st) μ := by
  intro C z H L ls h1 h2 h3
  have ho := grd_p hg
  exact va_alen C.1 C.2.1 C.2.2.2.2.2.1.1 h1 a 3 (a_11 ho) rfl (Option.some.inj (grd_v hg)) hd (kk C z H L ls h1 h2 h3)
/-! returns -/
theorem x_iret {mc ms : Nat} {x : Int32} {r : Option Value} {μ2 : Mu} (hret : ret = some .int) (hr : r = some (.int x)) (hμ : μ = μ2) (hc : cells = mc) (hs : slots = ms) (hd : decode cc pc = .ok (.ireturn, 1)) : Lt G p l e R s m args below meth c cc nL own ret nm (MQ below (Qm G r μ2 mc) args s mc ms (fA G)) cells slots pc lv [.int x] μ := by
  intro C z H L ls h1 h2 h3
  subst hr; subst hμ; subst hc; subst hs
  exact W.iret C.1 C.2.1 (C.2.2.2.2.2.2.2.2.1.trans hret) (fun t ht hW => ⟨rfl, by rw [ht]; exact h1, h2.F ht, z⟩) h2.2.2 hd C.2.2.2.2.2.2.1
theorem x_zret {mc ms : Nat} {x : Int32} {ty : FieldType} {r : Option Value} {μ2 : Mu} (hret : ret = some ty) (hn : narrow ty (.int x) = .int x) (hr : r = some (.int x)) (hμ : μ = μ2) (hc : cells = mc) (hs : slots = ms) (hd : decode cc pc = .ok (.ireturn, 1)) : Lt G p l e R s m args below meth c cc nL own ret nm (MQ below (Qm G r μ2 mc) args s mc ms (fA G)) cells slots pc lv [.int x] μ := by
  intro C z H L ls h1 h2 h3
  subst hr; subst hμ; subst hc; subst hs
  exact W.zret C.1 C.2.1 (C.2.2.2.2.2.2.2.2.1.trans hret) hn (fun t ht hW => ⟨rfl, by rw [ht]; exact h1, h2.F ht, z⟩) h2.2.2 hd C.2.2.2.2.2.2.1
theorem x_vret {mc ms : Nat} {r : Option Value} {μ2 : Mu} (hret : ret = none) (hr : r = none) (hμ : μ = μ2) (hc : cells = mc) (hs : slots = ms) (hd : decode cc pc = .ok (.return_, 1)) : Lt G p l e R s m args below meth c cc nL own ret nm (MQ below (Qm G r μ2 mc) args s mc ms (fA G)) cells slots pc lv [] μ := by
  intro C z H L ls h1 h2 h3
  subst hr; subst hμ; subst hc; subst hs
  exact W.vret C.1 C.2.1 (C.2.2.2.2.2.2.2.2.1.trans hret) (fun t ht hW => ⟨rfl, by rw [ht]; exact h1, h2.F ht, z⟩) h2.2.2 hd C.2.2.2.2.2.2.1
theorem x_aret {mc ms : Nat} {v : Value} {C0 : String} {r : Option Value} {μ2 : Mu} (hret : ret = some (.object C0)) (hv : v = .null ∨ ∃ a, v = .ref a) (hr : r = some v) (hμ : μ = μ2) (hc : cells = mc) (hs : slots = ms) (hd : decode cc pc = .ok (.areturn, 1)) : Lt G p l e R s m args below meth c cc nL own ret nm (MQ below (Qm G r μ2 mc) args s mc ms (fA G)) cells slots pc lv [v] μ := by
  intro C z H L ls h1 h2 h3
  subst hr; subst hμ; subst hc; subst hs
  exact W.aret C.1 C.2.1 (C.2.2.2.2.2.2.2.2.1.trans hret) (Or.inl ⟨C0, rfl⟩) hv (fun t ht hW => ⟨rfl, by rw [ht]; exact h1, h2.F ht, z⟩) h2.2.2 hd C.2.2.2.2.2.2.1
/-! calls -/
/-- a method's own words: its code, that it is an instance's, selected, its class initialised; how many it takes -/
def YW (y : MethodName) (bytes : ByteArray) (maxL : Nat) (rt : Option FieldType) (n : Nat) : Prop := Cond.code y bytes maxL rt ∈ TB ∧ Cond.initialized y.cls ∈ TB ∧ (y.cls ≠ "java/lang/invoke/MethodHandle" ∧ y.cls ≠ "java/lang/invoke/VarHandle" ∧ (parseMethodDescriptor y.desc).map (fun d => d.parameters.length) = some n)
theorem Pm_blind {avs : List Value} : FrameBlind (Pm G avs μ) := fun a U g mk q => ⟨q.1, q.2.1, q.2.2.1, q.2.2.2.same rfl⟩
theorem x_after {pc' : Nat} {rm0 : Nat} {mc ms : Nat} {H : Heap} {locs : List Loc} {ls : Array Slot} {r : Option Value} {av : Array Value} (C : Cx G p s m args meth c cc nL own ret nm) (z : s.heap.size + cells = gB G + μ.1) (hH : H.size = gB G + μ.1) (h2 : va_S (fA G) s.heap H locs) (h3 : lv_has ls nL lv)
    (hr : va_Run p l e R s m args below meth c H locs cells slots mc ms (F0 m pc ls st) rest (Qm G r μ' mc av) (fA G)) (kk : Lt G p l e R s m args below meth c cc nL own ret nm Q (cells + mc) (slots + ms) (pc + 3) lv (r.toList ++ rest) μ') : W p l e R s m args below meth c H locs cells slots Q (F0 m pc ls st) := by
  intro T hT X
  obtain ⟨v, st0, t, T', L, g0, X', hL, e1, e2, ⟨q1, q2, q3, q4⟩, hst⟩ := hr T hT X
  cases q1
  rw [g0] at q4
  have hF := q3
  obtain ⟨t2, a1, b1⟩ := kk C (by omega) T'.heap (locs ++ L) ls (by rw [e1]; exact q2) ⟨by
      have h4 := hF.1
      rw [g0] at h4
      rw [e1]
      exact Nat.le_trans h2.1 h4, fun q w1 w2 => by
      rw [e1, hF.2 q (by rw [g0]; exact Nat.lt_of_lt_of_le w1 h2.1) w2, g0]
      exact h2.2.1 q w1 w2, fun q hq => by
      rcases List.mem_append.mp hq with h | h
      · exact h2.2.2 q h
      · exact hL q h⟩ h3 T' rfl X'
  exact ⟨t2, hst t2 a1, b1⟩
theorem x_callV {i a ci : Nat} {y : MethodName} {bytes : ByteArray} {maxL' lev mc ms : Nat} {rt : Option FieldType} {r : Option Value} (As : List Value) (hM : Mt G l y bytes maxL' rt lev mc ms (.ref (gB G + a) :: As) μ r μ') (hy : YW y bytes maxL' rt As.length) (hin : Cond.instanceMethod y ∈ TB) (hse : Cond.selects y.cls y y ∈ TB) (hlk : Cond.methodLink own i y ∈ TB) (ho : isO ci a μ) (hci : ci < 8) (hcn : (kT ci).1 = y.cls)
    (hst : st = As.reverse ++ .ref (gB G + a) :: rest) (hrm : (rest.map fun v => v.category).sum ≤ 8) (hR : lev + 1 ≤ R.frames ∧ 8 + (maxL' + 11) + 40 * lev ≤ R.locals) (hf : cells + mc ≤ R.cells ∧ slots + ms ≤ R.slots) (hd : decode cc pc = .ok (.invokevirtual i, 3))
    (kk : Lt G p l e R s m args below meth c cc nL own ret nm Q (cells + mc) (slots + ms) (pc + 3) lv (r.toList ++ rest) μ') : Lt G p l e R s m args below meth c cc nL own ret nm Q cells slots pc lv st μ := by
  intro C z H L ls h1 h2 h3
  refine W_sz (fun hsz => ?_)
  have hH := Hp_sz C.2.2.2.2.2.2.2.1 z h1 h2 hsz
  have ht := C.2.2.2.2.1
  refine x_after (rm0 := 0) (pc' := 0) C z hH h2 h3 (va_runV (bytes := bytes) (maxL := maxL') (ret := rt) (Ts := TB) (own := own) (C := y.cls) (nL := nL) ⟨C.1, C.2.1, C.2.2.1, C.2.2.2.1, ht⟩ hM ?_ ⟨Pm_blind, ?_, fun U hU hW => ⟨rfl, by rw [hU]; exact hH, by rw [hU]; exact h1, C.2.2.2.2.2.1.warm hW⟩⟩ rfl rfl h3.1 hst (lv_room hrm) hd hf) kk
  · refine ⟨callB_of As.length ht (tb_code hy.1) rfl rfl rfl (ht _ hy.2.1) (ht _ hlk) hy.2.2 hR, ht _ hin, ht _ hse⟩
  · have := va_recv C.2.2.2.2.2.1.1 h1 (clok hci).1 (o_at ho hci)
    rwa [hcn] at this
theorem x_callS {i : Nat} {y : MethodName} {bytes : ByteArray} {maxL' lev mc ms : Nat} {rt : Option FieldType} {r : Option Value} (As : List Value) (hM : Mt G l y bytes maxL' rt lev mc ms As μ r μ') (hy : YW y bytes maxL' rt As.length) (hsta : Cond.static y ∈ TB) (hlk : Cond.methodLink own i y ∈ TB)
    (hst : st = As.reverse ++ rest) (hrm : (rest.map fun v => v.category).sum ≤ 8) (hR : lev + 1 ≤ R.frames ∧ 8 + (maxL' + 11) + 40 * lev ≤ R.locals) (hf : cells + mc ≤ R.cells ∧ slots + ms ≤ R.slots) (hd : decode cc pc = .ok (.invokestatic i, 3))
    (kk : Lt G p l e R s m args below meth c cc nL own ret nm Q (cells + mc) (slots + ms) (pc + 3) lv (r.toList ++ rest) μ') : Lt G p l e R s m args below meth c cc nL own ret nm Q cells slots pc lv st μ := by
  intro C z H L ls h1 h2 h3
  refine W_sz (fun hsz => ?_)
  have hH := Hp_sz C.2.2.2.2.2.2.2.1 z h1 h2 hsz
  have ht := C.2.2.2.2.1
  refine x_after (rm0 := 0) (pc' := 0) C z hH h2 h3 (va_runS (bytes := bytes) (maxL := maxL') (ret := rt) (Ts := TB) (own := own) (nL := nL) ⟨C.1, C.2.1, C.2.2.1, C.2.2.2.1, ht⟩ hM ?_ ⟨Pm_blind, fun U hU hW => ⟨rfl, by rw [hU]; exact hH, by rw [hU]; exact h1, C.2.2.2.2.2.1.warm hW⟩⟩ rfl rfl h3.1 hst (lv_room hrm) hd hf) kk
  exact ⟨callB_of As.length ht (tb_code hy.1) rfl rfl rfl (ht _ hy.2.1) (ht _ hlk) hy.2.2 hR, ht _ hsta⟩
/-- Green's call of HourGreen's private isWithin -/
theorem x_callN {bytes : ByteArray} {maxL' lev mc ms : Nat} {rt : Option FieldType} {r : Option Value} (As : List Value) (hown : own = "HourGreen$Green") (hM : Mt G l yX6_isWithin bytes maxL' rt lev mc ms As μ r μ') (hy : YW yX6_isWithin bytes maxL' rt As.length) (hsta : Cond.static yX6_isWithin ∈ TB)
    (hst : st = As.reverse ++ rest) (hrm : (rest.map fun v => v.category).sum ≤ 8) (hR : lev + 1 ≤ R.frames ∧ 8 + (maxL' + 11) + 40 * lev ≤ R.locals) (hf : cells + mc ≤ R.cells ∧ slots + ms ≤ R.slots) (hd : decode cc pc = .ok (.invokestatic 47, 3))
    (kk : Lt G p l e R s m args below meth c cc nL own ret nm Q (cells + mc) (slots + ms) (pc + 3) lv (r.toList ++ rest) μ') : Lt G p l e R s m args below meth c cc nL own ret nm Q cells slots pc lv st μ := by
  subst hown
  intro C z H L ls h1 h2 h3
  refine W_sz (fun hsz => ?_)
  have hH := Hp_sz C.2.2.2.2.2.2.2.1 z h1 h2 hsz
  have ht := C.2.2.2.2.1
  refine x_after (rm0 := 0) (pc' := 0) C z hH h2 h3 (va_runSN (bytes := bytes) (maxL := maxL') (ret := rt) (Ts := TB) (own := "HourGreen$Green") (host := "HourGreen") (nL := nL) (n := As.length) ⟨C.1, C.2.1, C.2.2.1, C.2.2.2.1, ht⟩ hM ?_ ⟨Pm_blind, fun U hU hW => ⟨rfl, by rw [hU]; exact hH, by rw [hU]; exact h1, C.2.2.2.2.2.1.warm hW⟩⟩ rfl rfl h3.1 hst (lv_room hrm) hd hf) kk
  exact ⟨va_cnB As.length ht (tb_code hy.1) rfl rfl rfl C.2.2.2.2.2.1.2.1 (ht _ hy.2.1) hy.2.2 hR, ht _ hsta, trivial⟩
theorem x_callI {i a : Nat} {y : MethodName} {bytes : ByteArray} {maxL' lev mc ms : Nat} {r : Option Value} (As : List Value) (hM : Mt G l y bytes maxL' none lev mc ms (.ref (gB G + a) :: As) μ r μ') (hy : YW y bytes maxL' none As.length) (hin : Cond.instanceMethod y ∈ TB) (hyn : y.name = "<init>") (hlk : Cond.methodLink own i y ∈ TB)
    (hst : st = As.reverse ++ .ref (gB G + a) :: rest) (hrm : (rest.map fun v => v.category).sum ≤ 8) (hR : lev + 1 ≤ R.frames ∧ 8 + (maxL' + 11) + 40 * lev ≤ R.locals) (hf : cells + mc ≤ R.cells ∧ slots + ms ≤ R.slots) (hd : decode cc pc = .ok (.invokespecial i, 3))
    (kk : Lt G p l e R s m args below meth c cc nL own ret nm Q (cells + mc) (slots + ms) (pc + 3) lv (r.toList ++ rest) μ') : Lt G p l e R s m args below meth c cc nL own ret nm Q cells slots pc lv st μ := by
  intro C z H L ls h1 h2 h3
  refine W_sz (fun hsz => ?_)
  have hH := Hp_sz C.2.2.2.2.2.2.2.1 z h1 h2 hsz
  have ht := C.2.2.2.2.1
  refine x_after (rm0 := 0) (pc' := 0) C z hH h2 h3 (va_runI (bytes := bytes) (maxL := maxL') (Ts := TB) (own := own) (nL := nL) ⟨C.1, C.2.1, C.2.2.1, C.2.2.2.1, ht⟩ hM ?_ ⟨Pm_blind, fun U hU hW => ⟨rfl, by rw [hU]; exact hH, by rw [hU]; exact h1, C.2.2.2.2.2.1.warm hW⟩⟩ rfl rfl h3.1 hst (lv_room hrm) hd hf) kk
  exact ⟨callB_of As.length ht (tb_code hy.1) rfl rfl rfl (ht _ hy.2.1) (ht _ hlk) hy.2.2 hR, hyn, ht _ hin⟩
end XH
end
section
theorem wY_X6_init : YW yX6_init cX6_init 2 none 0 := ⟨tb_i 60 (by decide +kernel) (by decide +kernel), tb_i 42 (by decide +kernel) (by decide +kernel), by decide +kernel⟩
theorem wI_X6_init : Cond.instanceMethod yX6_init ∈ TB := tb_i 59 (by decide +kernel) (by decide +kernel)
theorem wY_X3_init : YW yX3_init cX3_init 1 none 0 := ⟨tb_i 68 (by decide +kernel) (by decide +kernel), tb_i 43 (by decide +kernel) (by decide +kernel), by decide +kernel⟩
theorem wI_X3_init : Cond.instanceMethod yX3_init ∈ TB := tb_i 67 (by decide +kernel) (by decide +kernel)
theorem wY_X0_init : YW yX0_init cX0_init 1 none 0 := ⟨tb_i 87 (by decide +kernel) (by decide +kernel), tb_i 44 (by decide +kernel) (by decide +kernel), by decide +kernel⟩
theorem wI_X0_init : Cond.instanceMethod yX0_init ∈ TB := tb_i 86 (by decide +kernel) (by decide +kernel)
theorem wY_X0_clear : YW yX0_clear cX0_clear 2 none 0 := ⟨tb_i 92 (by decide +kernel) (by decide +kernel), tb_i 44 (by decide +kernel) (by decide +kernel), by decide +kernel⟩
theorem wI_X0_clear : Cond.instanceMethod yX0_clear ∈ TB := tb_i 90 (by decide +kernel) (by decide +kernel)
theorem wS_X0_clear : Cond.selects yX0_clear.cls yX0_clear yX0_clear ∈ TB := tb_i 91 (by decide +kernel) (by decide +kernel)
theorem wY_X4_init : YW yX4_init cX4_init 3 none 1 := ⟨tb_i 134 (by decide +kernel) (by decide +kernel), tb_i 45 (by decide +kernel) (by decide +kernel), by decide +kernel⟩
theorem wI_X4_init : Cond.instanceMethod yX4_init ∈ TB := tb_i 133 (by decide +kernel) (by decide +kernel)
theorem wY_X5_init : YW yX5_init cX5_init 1 none 0 := ⟨tb_i 157 (by decide +kernel) (by decide +kernel), tb_i 47 (by decide +kernel) (by decide +kernel), by decide +kernel⟩
theorem wI_X5_init : Cond.instanceMethod yX5_init ∈ TB := tb_i 156 (by decide +kernel) (by decide +kernel)
theorem wY_X2_init : YW yX2_init cX2_init 1 none 0 := ⟨tb_i 178 (by decide +kernel) (by decide +kernel), tb_i 48 (by decide +kernel) (by decide +kernel), by decide +kernel⟩
theorem wI_X2_init : Cond.instanceMethod yX2_init ∈ TB := tb_i 177 (by decide +kernel) (by decide +kernel)
theorem wY_X1_init : YW yX1_init cX1_init 1 none 0 := ⟨tb_i 206 (by decide +kernel) (by decide +kernel), tb_i 49 (by decide +kernel) (by decide +kernel), by decide +kernel⟩
theorem wI_X1_init : Cond.instanceMethod yX1_init ∈ TB := tb_i 205 (by decide +kernel) (by decide +kernel)
theorem wY_X3_add : YW yX3_add cX3_add 2 (some .boolean) 1 := ⟨tb_i 272 (by decide +kernel) (by decide +kernel), tb_i 43 (by decide +kernel) (by decide +kernel), by decide +kernel⟩
theorem wI_X3_add : Cond.instanceMethod yX3_add ∈ TB := tb_i 270 (by decide +kernel) (by decide +kernel)
theorem wS_X3_add : Cond.selects yX3_add.cls yX3_add yX3_add ∈ TB := tb_i 271 (by decide +kernel) (by decide +kernel)
theorem wY_X3_readInto : YW yX3_readInto cX3_readInto 4 (some .int) 1 := ⟨tb_i 276 (by decide +kernel) (by decide +kernel), tb_i 43 (by decide +kernel) (by decide +kernel), by decide +kernel⟩
theorem wI_X3_readInto : Cond.instanceMethod yX3_readInto ∈ TB := tb_i 274 (by decide +kernel) (by decide +kernel)
theorem wS_X3_readInto : Cond.selects yX3_readInto.cls yX3_readInto yX3_readInto ∈ TB := tb_i 275 (by decide +kernel) (by decide +kernel)
theorem wY_X3_readItem : YW yX3_readItem cX3_readItem 6 (some .int) 1 := ⟨tb_i 281 (by decide +kernel) (by decide +kernel), tb_i 43 (by decide +kernel) (by decide +kernel), by decide +kernel⟩
theorem wI_X3_readItem : Cond.instanceMethod yX3_readItem ∈ TB := tb_i 280 (by decide +kernel) (by decide +kernel)
theorem wS_X3_readItem : Cond.selects yX3_readItem.cls yX3_readItem yX3_readItem ∈ TB := tb_i 0 (by decide +kernel) (by decide +kernel)
theorem wY_X3_letterAt : YW yX3_letterAt cX3_letterAt 2 (some .char) 1 := ⟨tb_i 285 (by decide +kernel) (by decide +kernel), tb_i 43 (by decide +kernel) (by decide +kernel), by decide +kernel⟩
theorem wI_X3_letterAt : Cond.instanceMethod yX3_letterAt ∈ TB := tb_i 284 (by decide +kernel) (by decide +kernel)
theorem wS_X3_letterAt : Cond.selects yX3_letterAt.cls yX3_letterAt yX3_letterAt ∈ TB := tb_i 1 (by decide +kernel) (by decide +kernel)
theorem wY_X3_numbersOf : YW yX3_numbersOf cX3_numbersOf 1 (some .int) 1 := ⟨tb_i 288 (by decide +kernel) (by decide +kernel), tb_i 43 (by decide +kernel) (by decide +kernel), by decide +kernel⟩
theorem wT_X3_numbersOf : Cond.static yX3_numbersOf ∈ TB := tb_i 287 (by decide +kernel) (by decide +kernel)
theorem wY_X3_figuresAt : YW yX3_figuresAt cX3_figuresAt 2 (some .int) 1 := ⟨tb_i 292 (by decide +kernel) (by decide +kernel), tb_i 43 (by decide +kernel) (by decide +kernel), by decide +kernel⟩
theorem wI_X3_figuresAt : Cond.instanceMethod yX3_figuresAt ∈ TB := tb_i 291 (by decide +kernel) (by decide +kernel)
theorem wS_X3_figuresAt : Cond.selects yX3_figuresAt.cls yX3_figuresAt yX3_figuresAt ∈ TB := tb_i 2 (by decide +kernel) (by decide +kernel)
theorem wY_X3_isFigure : YW yX3_isFigure cX3_isFigure 1 (some .boolean) 1 := ⟨tb_i 295 (by decide +kernel) (by decide +kernel), tb_i 43 (by decide +kernel) (by decide +kernel), by decide +kernel⟩
theorem wT_X3_isFigure : Cond.static yX3_isFigure ∈ TB := tb_i 294 (by decide +kernel) (by decide +kernel)
theorem wY_X3_numberAt : YW yX3_numberAt cX3_numberAt 4 (some .int) 2 := ⟨tb_i 299 (by decide +kernel) (by decide +kernel), tb_i 43 (by decide +kernel) (by decide +kernel), by decide +kernel⟩
theorem wI_X3_numberAt : Cond.instanceMethod yX3_numberAt ∈ TB := tb_i 298 (by decide +kernel) (by decide +kernel)
theorem wS_X3_numberAt : Cond.selects yX3_numberAt.cls yX3_numberAt yX3_numberAt ∈ TB := tb_i 3 (by decide +kernel) (by decide +kernel)
theorem wY_X3_tell : YW yX3_tell cX3_tell 3 (some .boolean) 2 := ⟨tb_i 303 (by decide +kernel) (by decide +kernel), tb_i 43 (by decide +kernel) (by decide +kernel), by decide +kernel⟩
theorem wI_X3_tell : Cond.instanceMethod yX3_tell ∈ TB := tb_i 302 (by decide +kernel) (by decide +kernel)
theorem wS_X3_tell : Cond.selects yX3_tell.cls yX3_tell yX3_tell ∈ TB := tb_i 4 (by decide +kernel) (by decide +kernel)
theorem wY_X0_addPlot : YW yX0_addPlot cX0_addPlot 2 (some .boolean) 1 := ⟨tb_i 307 (by decide +kernel) (by decide +kernel), tb_i 44 (by decide +kernel) (by decide +kernel), by decide +kernel⟩
theorem wI_X0_addPlot : Cond.instanceMethod yX0_addPlot ∈ TB := tb_i 305 (by decide +kernel) (by decide +kernel)
theorem wS_X0_addPlot : Cond.selects yX0_addPlot.cls yX0_addPlot yX0_addPlot ∈ TB := tb_i 306 (by decide +kernel) (by decide +kernel)
theorem wY_X6_isWithin : YW yX6_isWithin cX6_isWithin 3 (some .boolean) 3 := ⟨tb_i 310 (by decide +kernel) (by decide +kernel), tb_i 42 (by decide +kernel) (by decide +kernel), by decide +kernel⟩
theorem wT_X6_isWithin : Cond.static yX6_isWithin ∈ TB := tb_i 309 (by decide +kernel) (by decide +kernel)
theorem wY_X0_addLyingHour : YW yX0_addLyingHour cX0_addLyingHour 4 (some .boolean) 3 := ⟨tb_i 314 (by decide +kernel) (by decide +kernel), tb_i 44 (by decide +kernel) (by decide +kernel), by decide +kernel⟩
theorem wI_X0_addLyingHour : Cond.instanceMethod yX0_addLyingHour ∈ TB := tb_i 312 (by decide +kernel) (by decide +kernel)
theorem wS_X0_addLyingHour : Cond.selects yX0_addLyingHour.cls yX0_addLyingHour yX0_addLyingHour ∈ TB := tb_i 313 (by decide +kernel) (by decide +kernel)
theorem wY_X0_addHour : YW yX0_addHour cX0_addHour 3 (some .boolean) 2 := ⟨tb_i 318 (by decide +kernel) (by decide +kernel), tb_i 44 (by decide +kernel) (by decide +kernel), by decide +kernel⟩
theorem wI_X0_addHour : Cond.instanceMethod yX0_addHour ∈ TB := tb_i 316 (by decide +kernel) (by decide +kernel)
theorem wS_X0_addHour : Cond.selects yX0_addHour.cls yX0_addHour yX0_addHour ∈ TB := tb_i 317 (by decide +kernel) (by decide +kernel)
theorem wY_X0_hasRoomFor : YW yX0_hasRoomFor cX0_hasRoomFor 4 (some .boolean) 2 := ⟨tb_i 322 (by decide +kernel) (by decide +kernel), tb_i 44 (by decide +kernel) (by decide +kernel), by decide +kernel⟩
theorem wI_X0_hasRoomFor : Cond.instanceMethod yX0_hasRoomFor ∈ TB := tb_i 320 (by decide +kernel) (by decide +kernel)
theorem wS_X0_hasRoomFor : Cond.selects yX0_hasRoomFor.cls yX0_hasRoomFor yX0_hasRoomFor ∈ TB := tb_i 321 (by decide +kernel) (by decide +kernel)
theorem wY_X0_hasHour : YW yX0_hasHour cX0_hasHour 2 (some .boolean) 1 := ⟨tb_i 326 (by decide +kernel) (by decide +kernel), tb_i 44 (by decide +kernel) (by decide +kernel), by decide +kernel⟩
theorem wI_X0_hasHour : Cond.instanceMethod yX0_hasHour ∈ TB := tb_i 324 (by decide +kernel) (by decide +kernel)
theorem wS_X0_hasHour : Cond.selects yX0_hasHour.cls yX0_hasHour yX0_hasHour ∈ TB := tb_i 325 (by decide +kernel) (by decide +kernel)
theorem wY_X0_hasPlot : YW yX0_hasPlot cX0_hasPlot 2 (some .boolean) 1 := ⟨tb_i 330 (by decide +kernel) (by decide +kernel), tb_i 44 (by decide +kernel) (by decide +kernel), by decide +kernel⟩
theorem wI_X0_hasPlot : Cond.instanceMethod yX0_hasPlot ∈ TB := tb_i 328 (by decide +kernel) (by decide +kernel)
theorem wS_X0_hasPlot : Cond.selects yX0_hasPlot.cls yX0_hasPlot yX0_hasPlot ∈ TB := tb_i 329 (by decide +kernel) (by decide +kernel)
theorem wY_X0_placeOf : YW yX0_placeOf cX0_placeOf 2 (some .int) 1 := ⟨tb_i 334 (by decide +kernel) (by decide +kernel), tb_i 44 (by decide +kernel) (by decide +kernel), by decide +kernel⟩
theorem wI_X0_placeOf : Cond.instanceMethod yX0_placeOf ∈ TB := tb_i 332 (by decide +kernel) (by decide +kernel)
theorem wS_X0_placeOf : Cond.selects yX0_placeOf.cls yX0_placeOf yX0_placeOf ∈ TB := tb_i 333 (by decide +kernel) (by decide +kernel)
theorem wY_X0_topOf : YW yX0_topOf cX0_topOf 2 (some .int) 1 := ⟨tb_i 338 (by decide +kernel) (by decide +kernel), tb_i 44 (by decide +kernel) (by decide +kernel), by decide +kernel⟩
theorem wI_X0_topOf : Cond.instanceMethod yX0_topOf ∈ TB := tb_i 336 (by decide +kernel) (by decide +kernel)
theorem wS_X0_topOf : Cond.selects yX0_topOf.cls yX0_topOf yX0_topOf ∈ TB := tb_i 337 (by decide +kernel) (by decide +kernel)
theorem wY_X0_heightOf : YW yX0_heightOf cX0_heightOf 4 (some .int) 1 := ⟨tb_i 342 (by decide +kernel) (by decide +kernel), tb_i 44 (by decide +kernel) (by decide +kernel), by decide +kernel⟩
theorem wI_X0_heightOf : Cond.instanceMethod yX0_heightOf ∈ TB := tb_i 340 (by decide +kernel) (by decide +kernel)
theorem wS_X0_heightOf : Cond.selects yX0_heightOf.cls yX0_heightOf yX0_heightOf ∈ TB := tb_i 341 (by decide +kernel) (by decide +kernel)
theorem wY_X0_hourAt : YW yX0_hourAt cX0_hourAt 4 (some .int) 2 := ⟨tb_i 346 (by decide +kernel) (by decide +kernel), tb_i 44 (by decide +kernel) (by decide +kernel), by decide +kernel⟩
theorem wI_X0_hourAt : Cond.instanceMethod yX0_hourAt ∈ TB := tb_i 344 (by decide +kernel) (by decide +kernel)
theorem wS_X0_hourAt : Cond.selects yX0_hourAt.cls yX0_hourAt yX0_hourAt ∈ TB := tb_i 345 (by decide +kernel) (by decide +kernel)
theorem wY_X0_kindOf : YW yX0_kindOf cX0_kindOf 2 (some .int) 1 := ⟨tb_i 350 (by decide +kernel) (by decide +kernel), tb_i 44 (by decide +kernel) (by decide +kernel), by decide +kernel⟩
theorem wI_X0_kindOf : Cond.instanceMethod yX0_kindOf ∈ TB := tb_i 348 (by decide +kernel) (by decide +kernel)
theorem wS_X0_kindOf : Cond.selects yX0_kindOf.cls yX0_kindOf yX0_kindOf ∈ TB := tb_i 349 (by decide +kernel) (by decide +kernel)
theorem wY_X0_needAbove : YW yX0_needAbove cX0_needAbove 2 (some .int) 2 := ⟨tb_i 353 (by decide +kernel) (by decide +kernel), tb_i 44 (by decide +kernel) (by decide +kernel), by decide +kernel⟩
theorem wT_X0_needAbove : Cond.static yX0_needAbove ∈ TB := tb_i 352 (by decide +kernel) (by decide +kernel)
theorem wY_X0_freeIn : YW yX0_freeIn cX0_freeIn 4 (some .int) 1 := ⟨tb_i 357 (by decide +kernel) (by decide +kernel), tb_i 44 (by decide +kernel) (by decide +kernel), by decide +kernel⟩
theorem wI_X0_freeIn : Cond.instanceMethod yX0_freeIn ∈ TB := tb_i 355 (by decide +kernel) (by decide +kernel)
theorem wS_X0_freeIn : Cond.selects yX0_freeIn.cls yX0_freeIn yX0_freeIn ∈ TB := tb_i 356 (by decide +kernel) (by decide +kernel)
theorem wY_X0_roomOf : YW yX0_roomOf cX0_roomOf 2 (some .int) 1 := ⟨tb_i 361 (by decide +kernel) (by decide +kernel), tb_i 44 (by decide +kernel) (by decide +kernel), by decide +kernel⟩
theorem wI_X0_roomOf : Cond.instanceMethod yX0_roomOf ∈ TB := tb_i 359 (by decide +kernel) (by decide +kernel)
theorem wS_X0_roomOf : Cond.selects yX0_roomOf.cls yX0_roomOf yX0_roomOf ∈ TB := tb_i 360 (by decide +kernel) (by decide +kernel)
theorem wY_X0_needOf : YW yX0_needOf cX0_needOf 3 (some .int) 1 := ⟨tb_i 365 (by decide +kernel) (by decide +kernel), tb_i 44 (by decide +kernel) (by decide +kernel), by decide +kernel⟩
theorem wI_X0_needOf : Cond.instanceMethod yX0_needOf ∈ TB := tb_i 363 (by decide +kernel) (by decide +kernel)
theorem wS_X0_needOf : Cond.selects yX0_needOf.cls yX0_needOf yX0_needOf ∈ TB := tb_i 364 (by decide +kernel) (by decide +kernel)
theorem wY_X0_setOnTop : YW yX0_setOnTop cX0_setOnTop 3 none 2 := ⟨tb_i 369 (by decide +kernel) (by decide +kernel), tb_i 44 (by decide +kernel) (by decide +kernel), by decide +kernel⟩
theorem wI_X0_setOnTop : Cond.instanceMethod yX0_setOnTop ∈ TB := tb_i 367 (by decide +kernel) (by decide +kernel)
theorem wS_X0_setOnTop : Cond.selects yX0_setOnTop.cls yX0_setOnTop yX0_setOnTop ∈ TB := tb_i 368 (by decide +kernel) (by decide +kernel)
theorem wY_X0_addFrost : YW yX0_addFrost cX0_addFrost 2 (some .boolean) 1 := ⟨tb_i 374 (by decide +kernel) (by decide +kernel), tb_i 44 (by decide +kernel) (by decide +kernel), by decide +kernel⟩
theorem wI_X0_addFrost : Cond.instanceMethod yX0_addFrost ∈ TB := tb_i 372 (by decide +kernel) (by decide +kernel)
theorem wS_X0_addFrost : Cond.selects yX0_addFrost.cls yX0_addFrost yX0_addFrost ∈ TB := tb_i 373 (by decide +kernel) (by decide +kernel)
theorem wY_X3_empty : YW yX3_empty cX3_empty 2 (some .int) 0 := ⟨tb_i 378 (by decide +kernel) (by decide +kernel), tb_i 43 (by decide +kernel) (by decide +kernel), by decide +kernel⟩
theorem wI_X3_empty : Cond.instanceMethod yX3_empty ∈ TB := tb_i 376 (by decide +kernel) (by decide +kernel)
theorem wS_X3_empty : Cond.selects yX3_empty.cls yX3_empty yX3_empty ∈ TB := tb_i 377 (by decide +kernel) (by decide +kernel)
theorem wY_X6_write : YW yX6_write cX6_write 2 (some .int) 1 := ⟨tb_i 408 (by decide +kernel) (by decide +kernel), tb_i 42 (by decide +kernel) (by decide +kernel), by decide +kernel⟩
theorem wI_X6_write : Cond.instanceMethod yX6_write ∈ TB := tb_i 406 (by decide +kernel) (by decide +kernel)
theorem wS_X6_write : Cond.selects yX6_write.cls yX6_write yX6_write ∈ TB := tb_i 407 (by decide +kernel) (by decide +kernel)
theorem wY_X6_wipe : YW yX6_wipe cX6_wipe 1 (some .int) 0 := ⟨tb_i 412 (by decide +kernel) (by decide +kernel), tb_i 42 (by decide +kernel) (by decide +kernel), by decide +kernel⟩
theorem wI_X6_wipe : Cond.instanceMethod yX6_wipe ∈ TB := tb_i 410 (by decide +kernel) (by decide +kernel)
theorem wS_X6_wipe : Cond.selects yX6_wipe.cls yX6_wipe yX6_wipe ∈ TB := tb_i 411 (by decide +kernel) (by decide +kernel)
theorem wY_X6_fault : YW yX6_fault cX6_fault 1 (some .int) 0 := ⟨tb_i 416 (by decide +kernel) (by decide +kernel), tb_i 42 (by decide +kernel) (by decide +kernel), by decide +kernel⟩
theorem wI_X6_fault : Cond.instanceMethod yX6_fault ∈ TB := tb_i 414 (by decide +kernel) (by decide +kernel)
theorem wS_X6_fault : Cond.selects yX6_fault.cls yX6_fault yX6_fault ∈ TB := tb_i 415 (by decide +kernel) (by decide +kernel)
theorem wY_X6_lay : YW yX6_lay cX6_lay 1 (some .int) 0 := ⟨tb_i 420 (by decide +kernel) (by decide +kernel), tb_i 42 (by decide +kernel) (by decide +kernel), by decide +kernel⟩
theorem wI_X6_lay : Cond.instanceMethod yX6_lay ∈ TB := tb_i 418 (by decide +kernel) (by decide +kernel)
theorem wS_X6_lay : Cond.selects yX6_lay.cls yX6_lay yX6_lay ∈ TB := tb_i 419 (by decide +kernel) (by decide +kernel)
theorem wY_X0_copyFrom : YW yX0_copyFrom cX0_copyFrom 3 none 1 := ⟨tb_i 424 (by decide +kernel) (by decide +kernel), tb_i 44 (by decide +kernel) (by decide +kernel), by decide +kernel⟩
theorem wI_X0_copyFrom : Cond.instanceMethod yX0_copyFrom ∈ TB := tb_i 422 (by decide +kernel) (by decide +kernel)
theorem wS_X0_copyFrom : Cond.selects yX0_copyFrom.cls yX0_copyFrom yX0_copyFrom ∈ TB := tb_i 423 (by decide +kernel) (by decide +kernel)
theorem wY_X4_empty : YW yX4_empty cX4_empty 1 none 0 := ⟨tb_i 428 (by decide +kernel) (by decide +kernel), tb_i 45 (by decide +kernel) (by decide +kernel), by decide +kernel⟩
theorem wI_X4_empty : Cond.instanceMethod yX4_empty ∈ TB := tb_i 426 (by decide +kernel) (by decide +kernel)
theorem wS_X4_empty : Cond.selects yX4_empty.cls yX4_empty yX4_empty ∈ TB := tb_i 427 (by decide +kernel) (by decide +kernel)
theorem wY_X5_empty : YW yX5_empty cX5_empty 2 (some .int) 0 := ⟨tb_i 432 (by decide +kernel) (by decide +kernel), tb_i 47 (by decide +kernel) (by decide +kernel), by decide +kernel⟩
theorem wI_X5_empty : Cond.instanceMethod yX5_empty ∈ TB := tb_i 430 (by decide +kernel) (by decide +kernel)
theorem wS_X5_empty : Cond.selects yX5_empty.cls yX5_empty yX5_empty ∈ TB := tb_i 431 (by decide +kernel) (by decide +kernel)
theorem wY_X6_plot : YW yX6_plot cX6_plot 3 (some .int) 2 := ⟨tb_i 436 (by decide +kernel) (by decide +kernel), tb_i 42 (by decide +kernel) (by decide +kernel), by decide +kernel⟩
theorem wI_X6_plot : Cond.instanceMethod yX6_plot ∈ TB := tb_i 434 (by decide +kernel) (by decide +kernel)
theorem wS_X6_plot : Cond.selects yX6_plot.cls yX6_plot yX6_plot ∈ TB := tb_i 435 (by decide +kernel) (by decide +kernel)
theorem wY_X6_hour : YW yX6_hour cX6_hour 3 (some .int) 2 := ⟨tb_i 445 (by decide +kernel) (by decide +kernel), tb_i 42 (by decide +kernel) (by decide +kernel), by decide +kernel⟩
theorem wI_X6_hour : Cond.instanceMethod yX6_hour ∈ TB := tb_i 443 (by decide +kernel) (by decide +kernel)
theorem wS_X6_hour : Cond.selects yX6_hour.cls yX6_hour yX6_hour ∈ TB := tb_i 444 (by decide +kernel) (by decide +kernel)
theorem wY_X0_worthOf : YW yX0_worthOf cX0_worthOf 2 (some .int) 1 := ⟨tb_i 451 (by decide +kernel) (by decide +kernel), tb_i 44 (by decide +kernel) (by decide +kernel), by decide +kernel⟩
theorem wI_X0_worthOf : Cond.instanceMethod yX0_worthOf ∈ TB := tb_i 449 (by decide +kernel) (by decide +kernel)
theorem wS_X0_worthOf : Cond.selects yX0_worthOf.cls yX0_worthOf yX0_worthOf ∈ TB := tb_i 450 (by decide +kernel) (by decide +kernel)
theorem wY_X0_lies : YW yX0_lies cX0_lies 2 (some .boolean) 1 := ⟨tb_i 456 (by decide +kernel) (by decide +kernel), tb_i 44 (by decide +kernel) (by decide +kernel), by decide +kernel⟩
theorem wI_X0_lies : Cond.instanceMethod yX0_lies ∈ TB := tb_i 454 (by decide +kernel) (by decide +kernel)
theorem wS_X0_lies : Cond.selects yX0_lies.cls yX0_lies yX0_lies ∈ TB := tb_i 455 (by decide +kernel) (by decide +kernel)
theorem wY_X0_depthOf : YW yX0_depthOf cX0_depthOf 2 (some .int) 1 := ⟨tb_i 460 (by decide +kernel) (by decide +kernel), tb_i 44 (by decide +kernel) (by decide +kernel), by decide +kernel⟩
theorem wI_X0_depthOf : Cond.instanceMethod yX0_depthOf ∈ TB := tb_i 458 (by decide +kernel) (by decide +kernel)
theorem wS_X0_depthOf : Cond.selects yX0_depthOf.cls yX0_depthOf yX0_depthOf ∈ TB := tb_i 459 (by decide +kernel) (by decide +kernel)
theorem wY_X6_fits : YW yX6_fits cX6_fits 3 (some .int) 2 := ⟨tb_i 465 (by decide +kernel) (by decide +kernel), tb_i 42 (by decide +kernel) (by decide +kernel), by decide +kernel⟩
theorem wI_X6_fits : Cond.instanceMethod yX6_fits ∈ TB := tb_i 463 (by decide +kernel) (by decide +kernel)
theorem wS_X6_fits : Cond.selects yX6_fits.cls yX6_fits yX6_fits ∈ TB := tb_i 464 (by decide +kernel) (by decide +kernel)
theorem wY_X6_pass : YW yX6_pass cX6_pass 2 (some .int) 1 := ⟨tb_i 470 (by decide +kernel) (by decide +kernel), tb_i 42 (by decide +kernel) (by decide +kernel), by decide +kernel⟩
theorem wI_X6_pass : Cond.instanceMethod yX6_pass ∈ TB := tb_i 468 (by decide +kernel) (by decide +kernel)
theorem wS_X6_pass : Cond.selects yX6_pass.cls yX6_pass yX6_pass ∈ TB := tb_i 469 (by decide +kernel) (by decide +kernel)
theorem wY_X4_store : YW yX4_store cX4_store 3 none 1 := ⟨tb_i 475 (by decide +kernel) (by decide +kernel), tb_i 45 (by decide +kernel) (by decide +kernel), by decide +kernel⟩
theorem wI_X4_store : Cond.instanceMethod yX4_store ∈ TB := tb_i 473 (by decide +kernel) (by decide +kernel)
theorem wS_X4_store : Cond.selects yX4_store.cls yX4_store yX4_store ∈ TB := tb_i 474 (by decide +kernel) (by decide +kernel)
theorem wY_X4_slotAt : YW yX4_slotAt cX4_slotAt 2 (some (.object "HourGreen$Green")) 1 := ⟨tb_i 479 (by decide +kernel) (by decide +kernel), tb_i 45 (by decide +kernel) (by decide +kernel), by decide +kernel⟩
theorem wI_X4_slotAt : Cond.instanceMethod yX4_slotAt ∈ TB := tb_i 478 (by decide +kernel) (by decide +kernel)
theorem wS_X4_slotAt : Cond.selects yX4_slotAt.cls yX4_slotAt yX4_slotAt ∈ TB := tb_i 5 (by decide +kernel) (by decide +kernel)
theorem wY_X4_isFull : YW yX4_isFull cX4_isFull 1 (some .boolean) 0 := ⟨tb_i 484 (by decide +kernel) (by decide +kernel), tb_i 45 (by decide +kernel) (by decide +kernel), by decide +kernel⟩
theorem wI_X4_isFull : Cond.instanceMethod yX4_isFull ∈ TB := tb_i 482 (by decide +kernel) (by decide +kernel)
theorem wS_X4_isFull : Cond.selects yX4_isFull.cls yX4_isFull yX4_isFull ∈ TB := tb_i 483 (by decide +kernel) (by decide +kernel)
theorem wY_X0_passYears : YW yX0_passYears cX0_passYears 5 (some .int) 1 := ⟨tb_i 488 (by decide +kernel) (by decide +kernel), tb_i 44 (by decide +kernel) (by decide +kernel), by decide +kernel⟩
theorem wI_X0_passYears : Cond.instanceMethod yX0_passYears ∈ TB := tb_i 486 (by decide +kernel) (by decide +kernel)
theorem wS_X0_passYears : Cond.selects yX0_passYears.cls yX0_passYears yX0_passYears ∈ TB := tb_i 487 (by decide +kernel) (by decide +kernel)
theorem wY_X0_rabbitPlot : YW yX0_rabbitPlot cX0_rabbitPlot 2 (some .int) 1 := ⟨tb_i 492 (by decide +kernel) (by decide +kernel), tb_i 44 (by decide +kernel) (by decide +kernel), by decide +kernel⟩
theorem wI_X0_rabbitPlot : Cond.instanceMethod yX0_rabbitPlot ∈ TB := tb_i 490 (by decide +kernel) (by decide +kernel)
theorem wS_X0_rabbitPlot : Cond.selects yX0_rabbitPlot.cls yX0_rabbitPlot yX0_rabbitPlot ∈ TB := tb_i 491 (by decide +kernel) (by decide +kernel)
theorem wY_X0_isLoose : YW yX0_isLoose cX0_isLoose 1 (some .boolean) 1 := ⟨tb_i 495 (by decide +kernel) (by decide +kernel), tb_i 44 (by decide +kernel) (by decide +kernel), by decide +kernel⟩
theorem wT_X0_isLoose : Cond.static yX0_isLoose ∈ TB := tb_i 494 (by decide +kernel) (by decide +kernel)
theorem wY_X6_put : YW yX6_put cX6_put 3 (some .int) 2 := ⟨tb_i 499 (by decide +kernel) (by decide +kernel), tb_i 42 (by decide +kernel) (by decide +kernel), by decide +kernel⟩
theorem wI_X6_put : Cond.instanceMethod yX6_put ∈ TB := tb_i 497 (by decide +kernel) (by decide +kernel)
theorem wS_X6_put : Cond.selects yX6_put.cls yX6_put yX6_put ∈ TB := tb_i 498 (by decide +kernel) (by decide +kernel)
theorem wY_X0_canBePutIn : YW yX0_canBePutIn cX0_canBePutIn 3 (some .boolean) 2 := ⟨tb_i 503 (by decide +kernel) (by decide +kernel), tb_i 44 (by decide +kernel) (by decide +kernel), by decide +kernel⟩
theorem wI_X0_canBePutIn : Cond.instanceMethod yX0_canBePutIn ∈ TB := tb_i 501 (by decide +kernel) (by decide +kernel)
theorem wS_X0_canBePutIn : Cond.selects yX0_canBePutIn.cls yX0_canBePutIn yX0_canBePutIn ∈ TB := tb_i 502 (by decide +kernel) (by decide +kernel)
theorem wY_X0_isFrost : YW yX0_isFrost cX0_isFrost 1 (some .boolean) 0 := ⟨tb_i 508 (by decide +kernel) (by decide +kernel), tb_i 44 (by decide +kernel) (by decide +kernel), by decide +kernel⟩
theorem wI_X0_isFrost : Cond.instanceMethod yX0_isFrost ∈ TB := tb_i 506 (by decide +kernel) (by decide +kernel)
theorem wS_X0_isFrost : Cond.selects yX0_isFrost.cls yX0_isFrost yX0_isFrost ∈ TB := tb_i 507 (by decide +kernel) (by decide +kernel)
theorem wY_X6_up : YW yX6_up cX6_up 2 (some .int) 1 := ⟨tb_i 513 (by decide +kernel) (by decide +kernel), tb_i 42 (by decide +kernel) (by decide +kernel), by decide +kernel⟩
theorem wI_X6_up : Cond.instanceMethod yX6_up ∈ TB := tb_i 511 (by decide +kernel) (by decide +kernel)
theorem wS_X6_up : Cond.selects yX6_up.cls yX6_up yX6_up ∈ TB := tb_i 512 (by decide +kernel) (by decide +kernel)
theorem wY_X0_takeUp : YW yX0_takeUp cX0_takeUp 4 (some .int) 1 := ⟨tb_i 517 (by decide +kernel) (by decide +kernel), tb_i 44 (by decide +kernel) (by decide +kernel), by decide +kernel⟩
theorem wI_X0_takeUp : Cond.instanceMethod yX0_takeUp ∈ TB := tb_i 515 (by decide +kernel) (by decide +kernel)
theorem wS_X0_takeUp : Cond.selects yX0_takeUp.cls yX0_takeUp yX0_takeUp ∈ TB := tb_i 516 (by decide +kernel) (by decide +kernel)
theorem wY_X0_isAbove : YW yX0_isAbove cX0_isAbove 3 (some .boolean) 2 := ⟨tb_i 521 (by decide +kernel) (by decide +kernel), tb_i 44 (by decide +kernel) (by decide +kernel), by decide +kernel⟩
theorem wI_X0_isAbove : Cond.instanceMethod yX0_isAbove ∈ TB := tb_i 519 (by decide +kernel) (by decide +kernel)
theorem wS_X0_isAbove : Cond.selects yX0_isAbove.cls yX0_isAbove yX0_isAbove ∈ TB := tb_i 520 (by decide +kernel) (by decide +kernel)
theorem wY_X6_dig : YW yX6_dig cX6_dig 2 (some .int) 1 := ⟨tb_i 526 (by decide +kernel) (by decide +kernel), tb_i 42 (by decide +kernel) (by decide +kernel), by decide +kernel⟩
theorem wI_X6_dig : Cond.instanceMethod yX6_dig ∈ TB := tb_i 524 (by decide +kernel) (by decide +kernel)
theorem wS_X6_dig : Cond.selects yX6_dig.cls yX6_dig yX6_dig ∈ TB := tb_i 525 (by decide +kernel) (by decide +kernel)
theorem wY_X0_deepen : YW yX0_deepen cX0_deepen 2 none 1 := ⟨tb_i 530 (by decide +kernel) (by decide +kernel), tb_i 44 (by decide +kernel) (by decide +kernel), by decide +kernel⟩
theorem wI_X0_deepen : Cond.instanceMethod yX0_deepen ∈ TB := tb_i 528 (by decide +kernel) (by decide +kernel)
theorem wS_X0_deepen : Cond.selects yX0_deepen.cls yX0_deepen yX0_deepen ∈ TB := tb_i 529 (by decide +kernel) (by decide +kernel)
theorem wY_X6_undo : YW yX6_undo cX6_undo 1 (some .int) 0 := ⟨tb_i 534 (by decide +kernel) (by decide +kernel), tb_i 42 (by decide +kernel) (by decide +kernel), by decide +kernel⟩
theorem wI_X6_undo : Cond.instanceMethod yX6_undo ∈ TB := tb_i 532 (by decide +kernel) (by decide +kernel)
theorem wS_X6_undo : Cond.selects yX6_undo.cls yX6_undo yX6_undo ∈ TB := tb_i 533 (by decide +kernel) (by decide +kernel)
theorem wY_X4_fetchInto : YW yX4_fetchInto cX4_fetchInto 4 (some .boolean) 1 := ⟨tb_i 538 (by decide +kernel) (by decide +kernel), tb_i 45 (by decide +kernel) (by decide +kernel), by decide +kernel⟩
theorem wI_X4_fetchInto : Cond.instanceMethod yX4_fetchInto ∈ TB := tb_i 536 (by decide +kernel) (by decide +kernel)
theorem wS_X4_fetchInto : Cond.selects yX4_fetchInto.cls yX4_fetchInto yX4_fetchInto ∈ TB := tb_i 537 (by decide +kernel) (by decide +kernel)
theorem wY_X6_out : YW yX6_out cX6_out 3 (some .int) 1 := ⟨tb_i 542 (by decide +kernel) (by decide +kernel), tb_i 42 (by decide +kernel) (by decide +kernel), by decide +kernel⟩
theorem wI_X6_out : Cond.instanceMethod yX6_out ∈ TB := tb_i 540 (by decide +kernel) (by decide +kernel)
theorem wS_X6_out : Cond.selects yX6_out.cls yX6_out yX6_out ∈ TB := tb_i 541 (by decide +kernel) (by decide +kernel)
theorem wY_X6_behind : YW yX6_behind cX6_behind 3 (some .int) 2 := ⟨tb_i 546 (by decide +kernel) (by decide +kernel), tb_i 42 (by decide +kernel) (by decide +kernel), by decide +kernel⟩
theorem wI_X6_behind : Cond.instanceMethod yX6_behind ∈ TB := tb_i 544 (by decide +kernel) (by decide +kernel)
theorem wS_X6_behind : Cond.selects yX6_behind.cls yX6_behind yX6_behind ∈ TB := tb_i 545 (by decide +kernel) (by decide +kernel)
theorem wY_X6_above : YW yX6_above cX6_above 2 (some .int) 1 := ⟨tb_i 550 (by decide +kernel) (by decide +kernel), tb_i 42 (by decide +kernel) (by decide +kernel), by decide +kernel⟩
theorem wI_X6_above : Cond.instanceMethod yX6_above ∈ TB := tb_i 548 (by decide +kernel) (by decide +kernel)
theorem wS_X6_above : Cond.selects yX6_above.cls yX6_above yX6_above ∈ TB := tb_i 549 (by decide +kernel) (by decide +kernel)
theorem wY_X0_bitsAbove : YW yX0_bitsAbove cX0_bitsAbove 4 (some .int) 1 := ⟨tb_i 554 (by decide +kernel) (by decide +kernel), tb_i 44 (by decide +kernel) (by decide +kernel), by decide +kernel⟩
theorem wI_X0_bitsAbove : Cond.instanceMethod yX0_bitsAbove ∈ TB := tb_i 552 (by decide +kernel) (by decide +kernel)
theorem wS_X0_bitsAbove : Cond.selects yX0_bitsAbove.cls yX0_bitsAbove yX0_bitsAbove ∈ TB := tb_i 553 (by decide +kernel) (by decide +kernel)
theorem wY_X6_packs : YW yX6_packs cX6_packs 3 (some .int) 1 := ⟨tb_i 558 (by decide +kernel) (by decide +kernel), tb_i 42 (by decide +kernel) (by decide +kernel), by decide +kernel⟩
theorem wI_X6_packs : Cond.instanceMethod yX6_packs ∈ TB := tb_i 556 (by decide +kernel) (by decide +kernel)
theorem wS_X6_packs : Cond.selects yX6_packs.cls yX6_packs yX6_packs ∈ TB := tb_i 557 (by decide +kernel) (by decide +kernel)
theorem wY_X2_mostOf : YW yX2_mostOf cX2_mostOf 5 (some .int) 2 := ⟨tb_i 562 (by decide +kernel) (by decide +kernel), tb_i 48 (by decide +kernel) (by decide +kernel), by decide +kernel⟩
theorem wI_X2_mostOf : Cond.instanceMethod yX2_mostOf ∈ TB := tb_i 560 (by decide +kernel) (by decide +kernel)
theorem wS_X2_mostOf : Cond.selects yX2_mostOf.cls yX2_mostOf yX2_mostOf ∈ TB := tb_i 561 (by decide +kernel) (by decide +kernel)
theorem wY_X2_lookAhead : YW yX2_lookAhead cX2_lookAhead 6 none 1 := ⟨tb_i 569 (by decide +kernel) (by decide +kernel), tb_i 48 (by decide +kernel) (by decide +kernel), by decide +kernel⟩
theorem wI_X2_lookAhead : Cond.instanceMethod yX2_lookAhead ∈ TB := tb_i 568 (by decide +kernel) (by decide +kernel)
theorem wS_X2_lookAhead : Cond.selects yX2_lookAhead.cls yX2_lookAhead yX2_lookAhead ∈ TB := tb_i 6 (by decide +kernel) (by decide +kernel)
theorem wY_X2_tryFrom : YW yX2_tryFrom cX2_tryFrom 5 none 4 := ⟨tb_i 576 (by decide +kernel) (by decide +kernel), tb_i 48 (by decide +kernel) (by decide +kernel), by decide +kernel⟩
theorem wT_X2_tryFrom : Cond.static yX2_tryFrom ∈ TB := tb_i 575 (by decide +kernel) (by decide +kernel)
theorem wY_X2_choose : YW yX2_choose cX2_choose 3 none 1 := ⟨tb_i 580 (by decide +kernel) (by decide +kernel), tb_i 48 (by decide +kernel) (by decide +kernel), by decide +kernel⟩
theorem wI_X2_choose : Cond.instanceMethod yX2_choose ∈ TB := tb_i 579 (by decide +kernel) (by decide +kernel)
theorem wS_X2_choose : Cond.selects yX2_choose.cls yX2_choose yX2_choose ∈ TB := tb_i 7 (by decide +kernel) (by decide +kernel)
theorem wY_X2_tryIn : YW yX2_tryIn cX2_tryIn 9 none 5 := ⟨tb_i 584 (by decide +kernel) (by decide +kernel), tb_i 48 (by decide +kernel) (by decide +kernel), by decide +kernel⟩
theorem wT_X2_tryIn : Cond.static yX2_tryIn ∈ TB := tb_i 583 (by decide +kernel) (by decide +kernel)
theorem wY_X2_hasTwinAhead : YW yX2_hasTwinAhead cX2_hasTwinAhead 5 (some .boolean) 2 := ⟨tb_i 588 (by decide +kernel) (by decide +kernel), tb_i 48 (by decide +kernel) (by decide +kernel), by decide +kernel⟩
theorem wI_X2_hasTwinAhead : Cond.instanceMethod yX2_hasTwinAhead ∈ TB := tb_i 587 (by decide +kernel) (by decide +kernel)
theorem wS_X2_hasTwinAhead : Cond.selects yX2_hasTwinAhead.cls yX2_hasTwinAhead yX2_hasTwinAhead ∈ TB := tb_i 8 (by decide +kernel) (by decide +kernel)
theorem wY_X2_placeOf : YW yX2_placeOf cX2_placeOf 2 (some .int) 1 := ⟨tb_i 592 (by decide +kernel) (by decide +kernel), tb_i 48 (by decide +kernel) (by decide +kernel), by decide +kernel⟩
theorem wI_X2_placeOf : Cond.instanceMethod yX2_placeOf ∈ TB := tb_i 590 (by decide +kernel) (by decide +kernel)
theorem wS_X2_placeOf : Cond.selects yX2_placeOf.cls yX2_placeOf yX2_placeOf ∈ TB := tb_i 591 (by decide +kernel) (by decide +kernel)
theorem wY_X6_stir : YW yX6_stir cX6_stir 2 (some .int) 1 := ⟨tb_i 596 (by decide +kernel) (by decide +kernel), tb_i 42 (by decide +kernel) (by decide +kernel), by decide +kernel⟩
theorem wI_X6_stir : Cond.instanceMethod yX6_stir ∈ TB := tb_i 594 (by decide +kernel) (by decide +kernel)
theorem wS_X6_stir : Cond.selects yX6_stir.cls yX6_stir yX6_stir ∈ TB := tb_i 595 (by decide +kernel) (by decide +kernel)
theorem wY_X0_setCount : YW yX0_setCount cX0_setCount 1 (some .int) 0 := ⟨tb_i 600 (by decide +kernel) (by decide +kernel), tb_i 44 (by decide +kernel) (by decide +kernel), by decide +kernel⟩
theorem wI_X0_setCount : Cond.instanceMethod yX0_setCount ∈ TB := tb_i 598 (by decide +kernel) (by decide +kernel)
theorem wS_X0_setCount : Cond.selects yX0_setCount.cls yX0_setCount yX0_setCount ∈ TB := tb_i 599 (by decide +kernel) (by decide +kernel)
theorem wY_X0_allLie : YW yX0_allLie cX0_allLie 3 (some .boolean) 1 := ⟨tb_i 604 (by decide +kernel) (by decide +kernel), tb_i 44 (by decide +kernel) (by decide +kernel), by decide +kernel⟩
theorem wI_X0_allLie : Cond.instanceMethod yX0_allLie ∈ TB := tb_i 602 (by decide +kernel) (by decide +kernel)
theorem wS_X0_allLie : Cond.selects yX0_allLie.cls yX0_allLie yX0_allLie ∈ TB := tb_i 603 (by decide +kernel) (by decide +kernel)
theorem wY_X0_stirOf : YW yX0_stirOf cX0_stirOf 4 (some .int) 1 := ⟨tb_i 608 (by decide +kernel) (by decide +kernel), tb_i 44 (by decide +kernel) (by decide +kernel), by decide +kernel⟩
theorem wI_X0_stirOf : Cond.instanceMethod yX0_stirOf ∈ TB := tb_i 606 (by decide +kernel) (by decide +kernel)
theorem wS_X0_stirOf : Cond.selects yX0_stirOf.cls yX0_stirOf yX0_stirOf ∈ TB := tb_i 607 (by decide +kernel) (by decide +kernel)
theorem wY_J6_bitCount_0f7a4 : YW yJ6_bitCount_0f7a4 cJ6_bitCount_0f7a4 1 (some .int) 1 := ⟨tb_i 612 (by decide +kernel) (by decide +kernel), tb_i 55 (by decide +kernel) (by decide +kernel), by decide +kernel⟩
theorem wT_J6_bitCount_0f7a4 : Cond.static yJ6_bitCount_0f7a4 ∈ TB := tb_i 611 (by decide +kernel) (by decide +kernel)
theorem wY_X6_cheap : YW yX6_cheap cX6_cheap 4 (some .int) 2 := ⟨tb_i 619 (by decide +kernel) (by decide +kernel), tb_i 42 (by decide +kernel) (by decide +kernel), by decide +kernel⟩
theorem wI_X6_cheap : Cond.instanceMethod yX6_cheap ∈ TB := tb_i 617 (by decide +kernel) (by decide +kernel)
theorem wS_X6_cheap : Cond.selects yX6_cheap.cls yX6_cheap yX6_cheap ∈ TB := tb_i 618 (by decide +kernel) (by decide +kernel)
theorem wY_X0_cheapestSet : YW yX0_cheapestSet cX0_cheapestSet 6 (some .int) 1 := ⟨tb_i 623 (by decide +kernel) (by decide +kernel), tb_i 44 (by decide +kernel) (by decide +kernel), by decide +kernel⟩
theorem wI_X0_cheapestSet : Cond.instanceMethod yX0_cheapestSet ∈ TB := tb_i 621 (by decide +kernel) (by decide +kernel)
theorem wS_X0_cheapestSet : Cond.selects yX0_cheapestSet.cls yX0_cheapestSet yX0_cheapestSet ∈ TB := tb_i 622 (by decide +kernel) (by decide +kernel)
theorem wY_X0_worthOfSet : YW yX0_worthOfSet cX0_worthOfSet 4 (some .int) 1 := ⟨tb_i 629 (by decide +kernel) (by decide +kernel), tb_i 44 (by decide +kernel) (by decide +kernel), by decide +kernel⟩
theorem wI_X0_worthOfSet : Cond.instanceMethod yX0_worthOfSet ∈ TB := tb_i 627 (by decide +kernel) (by decide +kernel)
theorem wS_X0_worthOfSet : Cond.selects yX0_worthOfSet.cls yX0_worthOfSet yX0_worthOfSet ∈ TB := tb_i 628 (by decide +kernel) (by decide +kernel)
theorem wY_X6_deeper : YW yX6_deeper cX6_deeper 6 (some .int) 1 := ⟨tb_i 636 (by decide +kernel) (by decide +kernel), tb_i 42 (by decide +kernel) (by decide +kernel), by decide +kernel⟩
theorem wI_X6_deeper : Cond.instanceMethod yX6_deeper ∈ TB := tb_i 634 (by decide +kernel) (by decide +kernel)
theorem wS_X6_deeper : Cond.selects yX6_deeper.cls yX6_deeper yX6_deeper ∈ TB := tb_i 635 (by decide +kernel) (by decide +kernel)
theorem wY_X6_years : YW yX6_years cX6_years 2 (some .int) 1 := ⟨tb_i 640 (by decide +kernel) (by decide +kernel), tb_i 42 (by decide +kernel) (by decide +kernel), by decide +kernel⟩
theorem wI_X6_years : Cond.instanceMethod yX6_years ∈ TB := tb_i 638 (by decide +kernel) (by decide +kernel)
theorem wS_X6_years : Cond.selects yX6_years.cls yX6_years yX6_years ∈ TB := tb_i 639 (by decide +kernel) (by decide +kernel)
theorem wY_X6_seen : YW yX6_seen cX6_seen 4 (some .int) 3 := ⟨tb_i 644 (by decide +kernel) (by decide +kernel), tb_i 42 (by decide +kernel) (by decide +kernel), by decide +kernel⟩
theorem wI_X6_seen : Cond.instanceMethod yX6_seen ∈ TB := tb_i 642 (by decide +kernel) (by decide +kernel)
theorem wS_X6_seen : Cond.selects yX6_seen.cls yX6_seen yX6_seen ∈ TB := tb_i 643 (by decide +kernel) (by decide +kernel)
theorem wY_X5_add : YW yX5_add cX5_add 4 (some .boolean) 3 := ⟨tb_i 648 (by decide +kernel) (by decide +kernel), tb_i 47 (by decide +kernel) (by decide +kernel), by decide +kernel⟩
theorem wI_X5_add : Cond.instanceMethod yX5_add ∈ TB := tb_i 646 (by decide +kernel) (by decide +kernel)
theorem wS_X5_add : Cond.selects yX5_add.cls yX5_add yX5_add ∈ TB := tb_i 647 (by decide +kernel) (by decide +kernel)
theorem wY_X6_forget : YW yX6_forget cX6_forget 1 (some .int) 0 := ⟨tb_i 652 (by decide +kernel) (by decide +kernel), tb_i 42 (by decide +kernel) (by decide +kernel), by decide +kernel⟩
theorem wI_X6_forget : Cond.instanceMethod yX6_forget ∈ TB := tb_i 650 (by decide +kernel) (by decide +kernel)
theorem wS_X6_forget : Cond.selects yX6_forget.cls yX6_forget yX6_forget ∈ TB := tb_i 651 (by decide +kernel) (by decide +kernel)
theorem wY_X6_plots : YW yX6_plots cX6_plots 4 (some .int) 1 := ⟨tb_i 656 (by decide +kernel) (by decide +kernel), tb_i 42 (by decide +kernel) (by decide +kernel), by decide +kernel⟩
theorem wI_X6_plots : Cond.instanceMethod yX6_plots ∈ TB := tb_i 654 (by decide +kernel) (by decide +kernel)
theorem wS_X6_plots : Cond.selects yX6_plots.cls yX6_plots yX6_plots ∈ TB := tb_i 655 (by decide +kernel) (by decide +kernel)
theorem wY_X5_comeTrueIn : YW yX5_comeTrueIn cX5_comeTrueIn 4 (some .boolean) 1 := ⟨tb_i 660 (by decide +kernel) (by decide +kernel), tb_i 47 (by decide +kernel) (by decide +kernel), by decide +kernel⟩
theorem wI_X5_comeTrueIn : Cond.instanceMethod yX5_comeTrueIn ∈ TB := tb_i 658 (by decide +kernel) (by decide +kernel)
theorem wS_X5_comeTrueIn : Cond.selects yX5_comeTrueIn.cls yX5_comeTrueIn yX5_comeTrueIn ∈ TB := tb_i 659 (by decide +kernel) (by decide +kernel)
theorem wY_X6_kinds : YW yX6_kinds cX6_kinds 4 (some .int) 1 := ⟨tb_i 666 (by decide +kernel) (by decide +kernel), tb_i 42 (by decide +kernel) (by decide +kernel), by decide +kernel⟩
theorem wI_X6_kinds : Cond.instanceMethod yX6_kinds ∈ TB := tb_i 664 (by decide +kernel) (by decide +kernel)
theorem wS_X6_kinds : Cond.selects yX6_kinds.cls yX6_kinds yX6_kinds ∈ TB := tb_i 665 (by decide +kernel) (by decide +kernel)
theorem wY_X0_setKind : YW yX0_setKind cX0_setKind 3 none 2 := ⟨tb_i 670 (by decide +kernel) (by decide +kernel), tb_i 44 (by decide +kernel) (by decide +kernel), by decide +kernel⟩
theorem wI_X0_setKind : Cond.instanceMethod yX0_setKind ∈ TB := tb_i 668 (by decide +kernel) (by decide +kernel)
theorem wS_X0_setKind : Cond.selects yX0_setKind.cls yX0_setKind yX0_setKind ∈ TB := tb_i 669 (by decide +kernel) (by decide +kernel)
theorem wY_X6_likely : YW yX6_likely cX6_likely 5 (some .int) 4 := ⟨tb_i 674 (by decide +kernel) (by decide +kernel), tb_i 42 (by decide +kernel) (by decide +kernel), by decide +kernel⟩
theorem wI_X6_likely : Cond.instanceMethod yX6_likely ∈ TB := tb_i 672 (by decide +kernel) (by decide +kernel)
theorem wS_X6_likely : Cond.selects yX6_likely.cls yX6_likely yX6_likely ∈ TB := tb_i 673 (by decide +kernel) (by decide +kernel)
theorem wY_X0_visitsTo : YW yX0_visitsTo cX0_visitsTo 5 (some .int) 2 := ⟨tb_i 678 (by decide +kernel) (by decide +kernel), tb_i 44 (by decide +kernel) (by decide +kernel), by decide +kernel⟩
theorem wI_X0_visitsTo : Cond.instanceMethod yX0_visitsTo ∈ TB := tb_i 676 (by decide +kernel) (by decide +kernel)
theorem wS_X0_visitsTo : Cond.selects yX0_visitsTo.cls yX0_visitsTo yX0_visitsTo ∈ TB := tb_i 677 (by decide +kernel) (by decide +kernel)
theorem wY_X0_throwsBorneBy : YW yX0_throwsBorneBy cX0_throwsBorneBy 4 (some .int) 1 := ⟨tb_i 682 (by decide +kernel) (by decide +kernel), tb_i 44 (by decide +kernel) (by decide +kernel), by decide +kernel⟩
theorem wI_X0_throwsBorneBy : Cond.instanceMethod yX0_throwsBorneBy ∈ TB := tb_i 680 (by decide +kernel) (by decide +kernel)
theorem wS_X0_throwsBorneBy : Cond.selects yX0_throwsBorneBy.cls yX0_throwsBorneBy yX0_throwsBorneBy ∈ TB := tb_i 681 (by decide +kernel) (by decide +kernel)
theorem wY_X1_reckon : YW yX1_reckon cX1_reckon 7 none 3 := ⟨tb_i 686 (by decide +kernel) (by decide +kernel), tb_i 49 (by decide +kernel) (by decide +kernel), by decide +kernel⟩
theorem wI_X1_reckon : Cond.instanceMethod yX1_reckon ∈ TB := tb_i 684 (by decide +kernel) (by decide +kernel)
theorem wS_X1_reckon : Cond.selects yX1_reckon.cls yX1_reckon yX1_reckon ∈ TB := tb_i 685 (by decide +kernel) (by decide +kernel)
theorem wY_X1_spread : YW yX1_spread cX1_spread 5 none 2 := ⟨tb_i 690 (by decide +kernel) (by decide +kernel), tb_i 49 (by decide +kernel) (by decide +kernel), by decide +kernel⟩
theorem wI_X1_spread : Cond.instanceMethod yX1_spread ∈ TB := tb_i 689 (by decide +kernel) (by decide +kernel)
theorem wS_X1_spread : Cond.selects yX1_spread.cls yX1_spread yX1_spread ∈ TB := tb_i 9 (by decide +kernel) (by decide +kernel)
theorem wY_X1_commonDivisor : YW yX1_commonDivisor cX1_commonDivisor 6 (some .int) 2 := ⟨tb_i 693 (by decide +kernel) (by decide +kernel), tb_i 49 (by decide +kernel) (by decide +kernel), by decide +kernel⟩
theorem wT_X1_commonDivisor : Cond.static yX1_commonDivisor ∈ TB := tb_i 692 (by decide +kernel) (by decide +kernel)
theorem wY_X6_decade : YW yX6_decade cX6_decade 5 (some .int) 3 := ⟨tb_i 697 (by decide +kernel) (by decide +kernel), tb_i 42 (by decide +kernel) (by decide +kernel), by decide +kernel⟩
theorem wI_X6_decade : Cond.instanceMethod yX6_decade ∈ TB := tb_i 695 (by decide +kernel) (by decide +kernel)
theorem wS_X6_decade : Cond.selects yX6_decade.cls yX6_decade yX6_decade ∈ TB := tb_i 696 (by decide +kernel) (by decide +kernel)
theorem wY_X6_drawOf : YW yX6_drawOf cX6_drawOf 4 (some .int) 2 := ⟨tb_i 700 (by decide +kernel) (by decide +kernel), tb_i 42 (by decide +kernel) (by decide +kernel), by decide +kernel⟩
theorem wT_X6_drawOf : Cond.static yX6_drawOf ∈ TB := tb_i 699 (by decide +kernel) (by decide +kernel)
theorem wY_X0_actByDraw : YW yX0_actByDraw cX0_actByDraw 4 none 1 := ⟨tb_i 708 (by decide +kernel) (by decide +kernel), tb_i 44 (by decide +kernel) (by decide +kernel), by decide +kernel⟩
theorem wI_X0_actByDraw : Cond.instanceMethod yX0_actByDraw ∈ TB := tb_i 706 (by decide +kernel) (by decide +kernel)
theorem wS_X0_actByDraw : Cond.selects yX0_actByDraw.cls yX0_actByDraw yX0_actByDraw ∈ TB := tb_i 707 (by decide +kernel) (by decide +kernel)
theorem wY_X0_lyingCount : YW yX0_lyingCount cX0_lyingCount 3 (some .int) 0 := ⟨tb_i 714 (by decide +kernel) (by decide +kernel), tb_i 44 (by decide +kernel) (by decide +kernel), by decide +kernel⟩
theorem wI_X0_lyingCount : Cond.instanceMethod yX0_lyingCount ∈ TB := tb_i 712 (by decide +kernel) (by decide +kernel)
theorem wS_X0_lyingCount : Cond.selects yX0_lyingCount.cls yX0_lyingCount yX0_lyingCount ∈ TB := tb_i 713 (by decide +kernel) (by decide +kernel)
theorem wY_X0_lyingWorth : YW yX0_lyingWorth cX0_lyingWorth 3 (some .int) 0 := ⟨tb_i 718 (by decide +kernel) (by decide +kernel), tb_i 44 (by decide +kernel) (by decide +kernel), by decide +kernel⟩
theorem wI_X0_lyingWorth : Cond.instanceMethod yX0_lyingWorth ∈ TB := tb_i 716 (by decide +kernel) (by decide +kernel)
theorem wS_X0_lyingWorth : Cond.selects yX0_lyingWorth.cls yX0_lyingWorth yX0_lyingWorth ∈ TB := tb_i 717 (by decide +kernel) (by decide +kernel)
theorem wY_X6_keep : YW yX6_keep cX6_keep 1 (some .int) 0 := ⟨tb_i 722 (by decide +kernel) (by decide +kernel), tb_i 42 (by decide +kernel) (by decide +kernel), by decide +kernel⟩
theorem wI_X6_keep : Cond.instanceMethod yX6_keep ∈ TB := tb_i 720 (by decide +kernel) (by decide +kernel)
theorem wS_X6_keep : Cond.selects yX6_keep.cls yX6_keep yX6_keep ∈ TB := tb_i 721 (by decide +kernel) (by decide +kernel)
theorem wY_X6_back : YW yX6_back cX6_back 1 (some .int) 0 := ⟨tb_i 727 (by decide +kernel) (by decide +kernel), tb_i 42 (by decide +kernel) (by decide +kernel), by decide +kernel⟩
theorem wI_X6_back : Cond.instanceMethod yX6_back ∈ TB := tb_i 725 (by decide +kernel) (by decide +kernel)
theorem wS_X6_back : Cond.selects yX6_back.cls yX6_back yX6_back ∈ TB := tb_i 726 (by decide +kernel) (by decide +kernel)
theorem wY_X6_count : YW yX6_count cX6_count 2 (some .int) 1 := ⟨tb_i 731 (by decide +kernel) (by decide +kernel), tb_i 42 (by decide +kernel) (by decide +kernel), by decide +kernel⟩
theorem wI_X6_count : Cond.instanceMethod yX6_count ∈ TB := tb_i 729 (by decide +kernel) (by decide +kernel)
theorem wS_X6_count : Cond.selects yX6_count.cls yX6_count yX6_count ∈ TB := tb_i 730 (by decide +kernel) (by decide +kernel)
theorem wY_X7_init : YW yX7_init cX7_init 2 none 0 := ⟨tb_i 737 (by decide +kernel) (by decide +kernel), tb_i 54 (by decide +kernel) (by decide +kernel), by decide +kernel⟩
theorem wI_X7_init : Cond.instanceMethod yX7_init ∈ TB := tb_i 736 (by decide +kernel) (by decide +kernel)
theorem wY_X7_holds : YW yX7_holds cX7_holds 2 none 0 := ⟨tb_i 742 (by decide +kernel) (by decide +kernel), tb_i 54 (by decide +kernel) (by decide +kernel), by decide +kernel⟩
theorem wI_X7_holds : Cond.instanceMethod yX7_holds ∈ TB := tb_i 741 (by decide +kernel) (by decide +kernel)
theorem wS_X7_holds : Cond.selects yX7_holds.cls yX7_holds yX7_holds ∈ TB := tb_i 10 (by decide +kernel) (by decide +kernel)
theorem wY_X7_in : YW yX7_in cX7_in 3 (some .boolean) 3 := ⟨tb_i 745 (by decide +kernel) (by decide +kernel), tb_i 54 (by decide +kernel) (by decide +kernel), by decide +kernel⟩
theorem wT_X7_in : Cond.static yX7_in ∈ TB := tb_i 744 (by decide +kernel) (by decide +kernel)
theorem wY_X7_newHour : YW yX7_newHour cX7_newHour 5 none 3 := ⟨tb_i 749 (by decide +kernel) (by decide +kernel), tb_i 54 (by decide +kernel) (by decide +kernel), by decide +kernel⟩
theorem wI_X7_newHour : Cond.instanceMethod yX7_newHour ∈ TB := tb_i 748 (by decide +kernel) (by decide +kernel)
theorem wS_X7_newHour : Cond.selects yX7_newHour.cls yX7_newHour yX7_newHour ∈ TB := tb_i 11 (by decide +kernel) (by decide +kernel)
theorem wY_X7_lays : YW yX7_lays cX7_lays 4 none 2 := ⟨tb_i 753 (by decide +kernel) (by decide +kernel), tb_i 54 (by decide +kernel) (by decide +kernel), by decide +kernel⟩
theorem wI_X7_lays : Cond.instanceMethod yX7_lays ∈ TB := tb_i 752 (by decide +kernel) (by decide +kernel)
theorem wS_X7_lays : Cond.selects yX7_lays.cls yX7_lays yX7_lays ∈ TB := tb_i 12 (by decide +kernel) (by decide +kernel)
theorem wY_X7_manyIn : YW yX7_manyIn cX7_manyIn 4 (some .int) 1 := ⟨tb_i 757 (by decide +kernel) (by decide +kernel), tb_i 54 (by decide +kernel) (by decide +kernel), by decide +kernel⟩
theorem wI_X7_manyIn : Cond.instanceMethod yX7_manyIn ∈ TB := tb_i 756 (by decide +kernel) (by decide +kernel)
theorem wS_X7_manyIn : Cond.selects yX7_manyIn.cls yX7_manyIn yX7_manyIn ∈ TB := tb_i 13 (by decide +kernel) (by decide +kernel)
theorem wY_X7_write : YW yX7_write cX7_write 2 (some .int) 1 := ⟨tb_i 816 (by decide +kernel) (by decide +kernel), tb_i 54 (by decide +kernel) (by decide +kernel), by decide +kernel⟩
theorem wI_X7_write : Cond.instanceMethod yX7_write ∈ TB := tb_i 814 (by decide +kernel) (by decide +kernel)
theorem wS_X7_write : Cond.selects yX7_write.cls yX7_write yX7_write ∈ TB := tb_i 815 (by decide +kernel) (by decide +kernel)
theorem wY_X7_wipe : YW yX7_wipe cX7_wipe 2 (some .int) 0 := ⟨tb_i 820 (by decide +kernel) (by decide +kernel), tb_i 54 (by decide +kernel) (by decide +kernel), by decide +kernel⟩
theorem wI_X7_wipe : Cond.instanceMethod yX7_wipe ∈ TB := tb_i 818 (by decide +kernel) (by decide +kernel)
theorem wS_X7_wipe : Cond.selects yX7_wipe.cls yX7_wipe yX7_wipe ∈ TB := tb_i 819 (by decide +kernel) (by decide +kernel)
theorem wY_X7_fault : YW yX7_fault cX7_fault 2 (some .int) 0 := ⟨tb_i 824 (by decide +kernel) (by decide +kernel), tb_i 54 (by decide +kernel) (by decide +kernel), by decide +kernel⟩
theorem wI_X7_fault : Cond.instanceMethod yX7_fault ∈ TB := tb_i 822 (by decide +kernel) (by decide +kernel)
theorem wS_X7_fault : Cond.selects yX7_fault.cls yX7_fault yX7_fault ∈ TB := tb_i 823 (by decide +kernel) (by decide +kernel)
theorem wY_X7_readsAll : YW yX7_readsAll cX7_readsAll 2 (some .int) 0 := ⟨tb_i 828 (by decide +kernel) (by decide +kernel), tb_i 54 (by decide +kernel) (by decide +kernel), by decide +kernel⟩
theorem wI_X7_readsAll : Cond.instanceMethod yX7_readsAll ∈ TB := tb_i 827 (by decide +kernel) (by decide +kernel)
theorem wS_X7_readsAll : Cond.selects yX7_readsAll.cls yX7_readsAll yX7_readsAll ∈ TB := tb_i 14 (by decide +kernel) (by decide +kernel)
theorem wY_X7_readsItem : YW yX7_readsItem cX7_readsItem 3 (some .boolean) 1 := ⟨tb_i 832 (by decide +kernel) (by decide +kernel), tb_i 54 (by decide +kernel) (by decide +kernel), by decide +kernel⟩
theorem wI_X7_readsItem : Cond.instanceMethod yX7_readsItem ∈ TB := tb_i 831 (by decide +kernel) (by decide +kernel)
theorem wS_X7_readsItem : Cond.selects yX7_readsItem.cls yX7_readsItem yX7_readsItem ∈ TB := tb_i 15 (by decide +kernel) (by decide +kernel)
theorem wY_X7_number : YW yX7_number cX7_number 6 (some .int) 3 := ⟨tb_i 836 (by decide +kernel) (by decide +kernel), tb_i 54 (by decide +kernel) (by decide +kernel), by decide +kernel⟩
theorem wI_X7_number : Cond.instanceMethod yX7_number ∈ TB := tb_i 835 (by decide +kernel) (by decide +kernel)
theorem wS_X7_number : Cond.selects yX7_number.cls yX7_number yX7_number ∈ TB := tb_i 16 (by decide +kernel) (by decide +kernel)
theorem wY_X7_letterAt : YW yX7_letterAt cX7_letterAt 2 (some .int) 1 := ⟨tb_i 840 (by decide +kernel) (by decide +kernel), tb_i 54 (by decide +kernel) (by decide +kernel), by decide +kernel⟩
theorem wI_X7_letterAt : Cond.instanceMethod yX7_letterAt ∈ TB := tb_i 839 (by decide +kernel) (by decide +kernel)
theorem wS_X7_letterAt : Cond.selects yX7_letterAt.cls yX7_letterAt yX7_letterAt ∈ TB := tb_i 17 (by decide +kernel) (by decide +kernel)
theorem wY_X7_isFigure : YW yX7_isFigure cX7_isFigure 1 (some .boolean) 1 := ⟨tb_i 843 (by decide +kernel) (by decide +kernel), tb_i 54 (by decide +kernel) (by decide +kernel), by decide +kernel⟩
theorem wT_X7_isFigure : Cond.static yX7_isFigure ∈ TB := tb_i 842 (by decide +kernel) (by decide +kernel)
theorem wY_X7_readsHour : YW yX7_readsHour cX7_readsHour 5 (some .boolean) 1 := ⟨tb_i 847 (by decide +kernel) (by decide +kernel), tb_i 54 (by decide +kernel) (by decide +kernel), by decide +kernel⟩
theorem wI_X7_readsHour : Cond.instanceMethod yX7_readsHour ∈ TB := tb_i 846 (by decide +kernel) (by decide +kernel)
theorem wS_X7_readsHour : Cond.selects yX7_readsHour.cls yX7_readsHour yX7_readsHour ∈ TB := tb_i 18 (by decide +kernel) (by decide +kernel)
theorem wY_X7_isFit : YW yX7_isFit cX7_isFit 5 (some .boolean) 3 := ⟨tb_i 851 (by decide +kernel) (by decide +kernel), tb_i 54 (by decide +kernel) (by decide +kernel), by decide +kernel⟩
theorem wI_X7_isFit : Cond.instanceMethod yX7_isFit ∈ TB := tb_i 850 (by decide +kernel) (by decide +kernel)
theorem wS_X7_isFit : Cond.selects yX7_isFit.cls yX7_isFit yX7_isFit ∈ TB := tb_i 19 (by decide +kernel) (by decide +kernel)
theorem wY_X7_topOf : YW yX7_topOf cX7_topOf 2 (some .int) 1 := ⟨tb_i 855 (by decide +kernel) (by decide +kernel), tb_i 54 (by decide +kernel) (by decide +kernel), by decide +kernel⟩
theorem wI_X7_topOf : Cond.instanceMethod yX7_topOf ∈ TB := tb_i 854 (by decide +kernel) (by decide +kernel)
theorem wS_X7_topOf : Cond.selects yX7_topOf.cls yX7_topOf yX7_topOf ∈ TB := tb_i 20 (by decide +kernel) (by decide +kernel)
theorem wY_X7_lying : YW yX7_lying cX7_lying 5 (some .int) 2 := ⟨tb_i 859 (by decide +kernel) (by decide +kernel), tb_i 54 (by decide +kernel) (by decide +kernel), by decide +kernel⟩
theorem wI_X7_lying : Cond.instanceMethod yX7_lying ∈ TB := tb_i 858 (by decide +kernel) (by decide +kernel)
theorem wS_X7_lying : Cond.selects yX7_lying.cls yX7_lying yX7_lying ∈ TB := tb_i 21 (by decide +kernel) (by decide +kernel)
theorem wY_X7_kindOf : YW yX7_kindOf cX7_kindOf 3 (some .int) 2 := ⟨tb_i 863 (by decide +kernel) (by decide +kernel), tb_i 54 (by decide +kernel) (by decide +kernel), by decide +kernel⟩
theorem wI_X7_kindOf : Cond.instanceMethod yX7_kindOf ∈ TB := tb_i 862 (by decide +kernel) (by decide +kernel)
theorem wS_X7_kindOf : Cond.selects yX7_kindOf.cls yX7_kindOf yX7_kindOf ∈ TB := tb_i 22 (by decide +kernel) (by decide +kernel)
theorem wY_X7_allNeeds : YW yX7_allNeeds cX7_allNeeds 7 (some .int) 2 := ⟨tb_i 867 (by decide +kernel) (by decide +kernel), tb_i 54 (by decide +kernel) (by decide +kernel), by decide +kernel⟩
theorem wI_X7_allNeeds : Cond.instanceMethod yX7_allNeeds ∈ TB := tb_i 866 (by decide +kernel) (by decide +kernel)
theorem wS_X7_allNeeds : Cond.selects yX7_allNeeds.cls yX7_allNeeds yX7_allNeeds ∈ TB := tb_i 23 (by decide +kernel) (by decide +kernel)
theorem wY_X7_needs : YW yX7_needs cX7_needs 2 (some .int) 2 := ⟨tb_i 870 (by decide +kernel) (by decide +kernel), tb_i 54 (by decide +kernel) (by decide +kernel), by decide +kernel⟩
theorem wT_X7_needs : Cond.static yX7_needs ∈ TB := tb_i 869 (by decide +kernel) (by decide +kernel)
theorem wY_X7_lets : YW yX7_lets cX7_lets 2 none 0 := ⟨tb_i 874 (by decide +kernel) (by decide +kernel), tb_i 54 (by decide +kernel) (by decide +kernel), by decide +kernel⟩
theorem wI_X7_lets : Cond.instanceMethod yX7_lets ∈ TB := tb_i 873 (by decide +kernel) (by decide +kernel)
theorem wS_X7_lets : Cond.selects yX7_lets.cls yX7_lets yX7_lets ∈ TB := tb_i 24 (by decide +kernel) (by decide +kernel)
theorem wY_X7_lay : YW yX7_lay cX7_lay 2 (some .int) 0 := ⟨tb_i 878 (by decide +kernel) (by decide +kernel), tb_i 54 (by decide +kernel) (by decide +kernel), by decide +kernel⟩
theorem wI_X7_lay : Cond.instanceMethod yX7_lay ∈ TB := tb_i 876 (by decide +kernel) (by decide +kernel)
theorem wS_X7_lay : Cond.selects yX7_lay.cls yX7_lay yX7_lay ∈ TB := tb_i 877 (by decide +kernel) (by decide +kernel)
theorem wY_X7_plot : YW yX7_plot cX7_plot 3 (some .int) 2 := ⟨tb_i 882 (by decide +kernel) (by decide +kernel), tb_i 54 (by decide +kernel) (by decide +kernel), by decide +kernel⟩
theorem wI_X7_plot : Cond.instanceMethod yX7_plot ∈ TB := tb_i 880 (by decide +kernel) (by decide +kernel)
theorem wS_X7_plot : Cond.selects yX7_plot.cls yX7_plot yX7_plot ∈ TB := tb_i 881 (by decide +kernel) (by decide +kernel)
theorem wY_X7_isPlot : YW yX7_isPlot cX7_isPlot 2 (some .boolean) 1 := ⟨tb_i 886 (by decide +kernel) (by decide +kernel), tb_i 54 (by decide +kernel) (by decide +kernel), by decide +kernel⟩
theorem wI_X7_isPlot : Cond.instanceMethod yX7_isPlot ∈ TB := tb_i 885 (by decide +kernel) (by decide +kernel)
theorem wS_X7_isPlot : Cond.selects yX7_isPlot.cls yX7_isPlot yX7_isPlot ∈ TB := tb_i 25 (by decide +kernel) (by decide +kernel)
theorem wY_X7_hour : YW yX7_hour cX7_hour 4 (some .int) 2 := ⟨tb_i 890 (by decide +kernel) (by decide +kernel), tb_i 54 (by decide +kernel) (by decide +kernel), by decide +kernel⟩
theorem wI_X7_hour : Cond.instanceMethod yX7_hour ∈ TB := tb_i 888 (by decide +kernel) (by decide +kernel)
theorem wS_X7_hour : Cond.selects yX7_hour.cls yX7_hour yX7_hour ∈ TB := tb_i 889 (by decide +kernel) (by decide +kernel)
theorem wY_X7_isHour : YW yX7_isHour cX7_isHour 2 (some .boolean) 1 := ⟨tb_i 894 (by decide +kernel) (by decide +kernel), tb_i 54 (by decide +kernel) (by decide +kernel), by decide +kernel⟩
theorem wI_X7_isHour : Cond.instanceMethod yX7_isHour ∈ TB := tb_i 893 (by decide +kernel) (by decide +kernel)
theorem wS_X7_isHour : Cond.selects yX7_isHour.cls yX7_isHour yX7_isHour ∈ TB := tb_i 26 (by decide +kernel) (by decide +kernel)
theorem wY_X7_fits : YW yX7_fits cX7_fits 3 (some .int) 2 := ⟨tb_i 898 (by decide +kernel) (by decide +kernel), tb_i 54 (by decide +kernel) (by decide +kernel), by decide +kernel⟩
theorem wI_X7_fits : Cond.instanceMethod yX7_fits ∈ TB := tb_i 896 (by decide +kernel) (by decide +kernel)
theorem wS_X7_fits : Cond.selects yX7_fits.cls yX7_fits yX7_fits ∈ TB := tb_i 897 (by decide +kernel) (by decide +kernel)
theorem wY_X7_pass : YW yX7_pass cX7_pass 4 (some .int) 1 := ⟨tb_i 902 (by decide +kernel) (by decide +kernel), tb_i 54 (by decide +kernel) (by decide +kernel), by decide +kernel⟩
theorem wI_X7_pass : Cond.instanceMethod yX7_pass ∈ TB := tb_i 900 (by decide +kernel) (by decide +kernel)
theorem wS_X7_pass : Cond.selects yX7_pass.cls yX7_pass yX7_pass ∈ TB := tb_i 901 (by decide +kernel) (by decide +kernel)
theorem wY_X7_keeps : YW yX7_keeps cX7_keeps 2 none 0 := ⟨tb_i 906 (by decide +kernel) (by decide +kernel), tb_i 54 (by decide +kernel) (by decide +kernel), by decide +kernel⟩
theorem wI_X7_keeps : Cond.instanceMethod yX7_keeps ∈ TB := tb_i 905 (by decide +kernel) (by decide +kernel)
theorem wS_X7_keeps : Cond.selects yX7_keeps.cls yX7_keeps yX7_keeps ∈ TB := tb_i 27 (by decide +kernel) (by decide +kernel)
theorem wY_X7_passes : YW yX7_passes cX7_passes 5 (some .boolean) 1 := ⟨tb_i 910 (by decide +kernel) (by decide +kernel), tb_i 54 (by decide +kernel) (by decide +kernel), by decide +kernel⟩
theorem wI_X7_passes : Cond.instanceMethod yX7_passes ∈ TB := tb_i 909 (by decide +kernel) (by decide +kernel)
theorem wS_X7_passes : Cond.selects yX7_passes.cls yX7_passes yX7_passes ∈ TB := tb_i 28 (by decide +kernel) (by decide +kernel)
theorem wY_X7_takes : YW yX7_takes cX7_takes 6 (some .int) 1 := ⟨tb_i 914 (by decide +kernel) (by decide +kernel), tb_i 54 (by decide +kernel) (by decide +kernel), by decide +kernel⟩
theorem wI_X7_takes : Cond.instanceMethod yX7_takes ∈ TB := tb_i 913 (by decide +kernel) (by decide +kernel)
theorem wS_X7_takes : Cond.selects yX7_takes.cls yX7_takes yX7_takes ∈ TB := tb_i 29 (by decide +kernel) (by decide +kernel)
theorem wY_X7_put : YW yX7_put cX7_put 3 (some .int) 2 := ⟨tb_i 918 (by decide +kernel) (by decide +kernel), tb_i 54 (by decide +kernel) (by decide +kernel), by decide +kernel⟩
theorem wI_X7_put : Cond.instanceMethod yX7_put ∈ TB := tb_i 916 (by decide +kernel) (by decide +kernel)
theorem wS_X7_put : Cond.selects yX7_put.cls yX7_put yX7_put ∈ TB := tb_i 917 (by decide +kernel) (by decide +kernel)
theorem wY_X7_mayPut : YW yX7_mayPut cX7_mayPut 3 (some .boolean) 2 := ⟨tb_i 922 (by decide +kernel) (by decide +kernel), tb_i 54 (by decide +kernel) (by decide +kernel), by decide +kernel⟩
theorem wI_X7_mayPut : Cond.instanceMethod yX7_mayPut ∈ TB := tb_i 921 (by decide +kernel) (by decide +kernel)
theorem wS_X7_mayPut : Cond.selects yX7_mayPut.cls yX7_mayPut yX7_mayPut ∈ TB := tb_i 30 (by decide +kernel) (by decide +kernel)
theorem wY_X7_isFrost : YW yX7_isFrost cX7_isFrost 1 (some .boolean) 0 := ⟨tb_i 926 (by decide +kernel) (by decide +kernel), tb_i 54 (by decide +kernel) (by decide +kernel), by decide +kernel⟩
theorem wI_X7_isFrost : Cond.instanceMethod yX7_isFrost ∈ TB := tb_i 925 (by decide +kernel) (by decide +kernel)
theorem wS_X7_isFrost : Cond.selects yX7_isFrost.cls yX7_isFrost yX7_isFrost ∈ TB := tb_i 31 (by decide +kernel) (by decide +kernel)
theorem wY_X7_up : YW yX7_up cX7_up 3 (some .int) 1 := ⟨tb_i 930 (by decide +kernel) (by decide +kernel), tb_i 54 (by decide +kernel) (by decide +kernel), by decide +kernel⟩
theorem wI_X7_up : Cond.instanceMethod yX7_up ∈ TB := tb_i 928 (by decide +kernel) (by decide +kernel)
theorem wS_X7_up : Cond.selects yX7_up.cls yX7_up yX7_up ∈ TB := tb_i 929 (by decide +kernel) (by decide +kernel)
theorem wY_X7_dig : YW yX7_dig cX7_dig 2 (some .int) 1 := ⟨tb_i 934 (by decide +kernel) (by decide +kernel), tb_i 54 (by decide +kernel) (by decide +kernel), by decide +kernel⟩
theorem wI_X7_dig : Cond.instanceMethod yX7_dig ∈ TB := tb_i 932 (by decide +kernel) (by decide +kernel)
theorem wS_X7_dig : Cond.selects yX7_dig.cls yX7_dig yX7_dig ∈ TB := tb_i 933 (by decide +kernel) (by decide +kernel)
theorem wY_X7_undo : YW yX7_undo cX7_undo 2 (some .int) 0 := ⟨tb_i 938 (by decide +kernel) (by decide +kernel), tb_i 54 (by decide +kernel) (by decide +kernel), by decide +kernel⟩
theorem wI_X7_undo : Cond.instanceMethod yX7_undo ∈ TB := tb_i 936 (by decide +kernel) (by decide +kernel)
theorem wS_X7_undo : Cond.selects yX7_undo.cls yX7_undo yX7_undo ∈ TB := tb_i 937 (by decide +kernel) (by decide +kernel)
theorem wY_X7_out : YW yX7_out cX7_out 3 (some .int) 1 := ⟨tb_i 942 (by decide +kernel) (by decide +kernel), tb_i 54 (by decide +kernel) (by decide +kernel), by decide +kernel⟩
theorem wI_X7_out : Cond.instanceMethod yX7_out ∈ TB := tb_i 940 (by decide +kernel) (by decide +kernel)
theorem wS_X7_out : Cond.selects yX7_out.cls yX7_out yX7_out ∈ TB := tb_i 941 (by decide +kernel) (by decide +kernel)
theorem wY_X7_looks : YW yX7_looks cX7_looks 2 none 0 := ⟨tb_i 946 (by decide +kernel) (by decide +kernel), tb_i 54 (by decide +kernel) (by decide +kernel), by decide +kernel⟩
theorem wI_X7_looks : Cond.instanceMethod yX7_looks ∈ TB := tb_i 945 (by decide +kernel) (by decide +kernel)
theorem wS_X7_looks : Cond.selects yX7_looks.cls yX7_looks yX7_looks ∈ TB := tb_i 32 (by decide +kernel) (by decide +kernel)
theorem wY_X7_behind : YW yX7_behind cX7_behind 4 (some .int) 2 := ⟨tb_i 950 (by decide +kernel) (by decide +kernel), tb_i 54 (by decide +kernel) (by decide +kernel), by decide +kernel⟩
theorem wI_X7_behind : Cond.instanceMethod yX7_behind ∈ TB := tb_i 948 (by decide +kernel) (by decide +kernel)
theorem wS_X7_behind : Cond.selects yX7_behind.cls yX7_behind yX7_behind ∈ TB := tb_i 949 (by decide +kernel) (by decide +kernel)
theorem wY_X7_above : YW yX7_above cX7_above 2 (some .int) 1 := ⟨tb_i 954 (by decide +kernel) (by decide +kernel), tb_i 54 (by decide +kernel) (by decide +kernel), by decide +kernel⟩
theorem wI_X7_above : Cond.instanceMethod yX7_above ∈ TB := tb_i 952 (by decide +kernel) (by decide +kernel)
theorem wS_X7_above : Cond.selects yX7_above.cls yX7_above yX7_above ∈ TB := tb_i 953 (by decide +kernel) (by decide +kernel)
theorem wY_X7_aboveOf : YW yX7_aboveOf cX7_aboveOf 4 (some .int) 1 := ⟨tb_i 958 (by decide +kernel) (by decide +kernel), tb_i 54 (by decide +kernel) (by decide +kernel), by decide +kernel⟩
theorem wI_X7_aboveOf : Cond.instanceMethod yX7_aboveOf ∈ TB := tb_i 957 (by decide +kernel) (by decide +kernel)
theorem wS_X7_aboveOf : Cond.selects yX7_aboveOf.cls yX7_aboveOf yX7_aboveOf ∈ TB := tb_i 33 (by decide +kernel) (by decide +kernel)
theorem wY_X7_packs : YW yX7_packs cX7_packs 3 (some .int) 1 := ⟨tb_i 962 (by decide +kernel) (by decide +kernel), tb_i 54 (by decide +kernel) (by decide +kernel), by decide +kernel⟩
theorem wI_X7_packs : Cond.instanceMethod yX7_packs ∈ TB := tb_i 960 (by decide +kernel) (by decide +kernel)
theorem wS_X7_packs : Cond.selects yX7_packs.cls yX7_packs yX7_packs ∈ TB := tb_i 961 (by decide +kernel) (by decide +kernel)
theorem wY_X7_packed : YW yX7_packed cX7_packed 7 (some .int) 0 := ⟨tb_i 966 (by decide +kernel) (by decide +kernel), tb_i 54 (by decide +kernel) (by decide +kernel), by decide +kernel⟩
theorem wI_X7_packed : Cond.instanceMethod yX7_packed ∈ TB := tb_i 965 (by decide +kernel) (by decide +kernel)
theorem wS_X7_packed : Cond.selects yX7_packed.cls yX7_packed yX7_packed ∈ TB := tb_i 34 (by decide +kernel) (by decide +kernel)
theorem wY_X7_marks : YW yX7_marks cX7_marks 2 none 0 := ⟨tb_i 970 (by decide +kernel) (by decide +kernel), tb_i 54 (by decide +kernel) (by decide +kernel), by decide +kernel⟩
theorem wI_X7_marks : Cond.instanceMethod yX7_marks ∈ TB := tb_i 969 (by decide +kernel) (by decide +kernel)
theorem wS_X7_marks : Cond.selects yX7_marks.cls yX7_marks yX7_marks ∈ TB := tb_i 35 (by decide +kernel) (by decide +kernel)
theorem wY_X7_stir : YW yX7_stir cX7_stir 2 (some .int) 1 := ⟨tb_i 974 (by decide +kernel) (by decide +kernel), tb_i 54 (by decide +kernel) (by decide +kernel), by decide +kernel⟩
theorem wI_X7_stir : Cond.instanceMethod yX7_stir ∈ TB := tb_i 972 (by decide +kernel) (by decide +kernel)
theorem wS_X7_stir : Cond.selects yX7_stir.cls yX7_stir yX7_stir ∈ TB := tb_i 973 (by decide +kernel) (by decide +kernel)
theorem wY_X7_lyingAll : YW yX7_lyingAll cX7_lyingAll 3 (some .int) 0 := ⟨tb_i 978 (by decide +kernel) (by decide +kernel), tb_i 54 (by decide +kernel) (by decide +kernel), by decide +kernel⟩
theorem wI_X7_lyingAll : Cond.instanceMethod yX7_lyingAll ∈ TB := tb_i 977 (by decide +kernel) (by decide +kernel)
theorem wS_X7_lyingAll : Cond.selects yX7_lyingAll.cls yX7_lyingAll yX7_lyingAll ∈ TB := tb_i 36 (by decide +kernel) (by decide +kernel)
theorem wY_X7_stirs : YW yX7_stirs cX7_stirs 4 (some .int) 1 := ⟨tb_i 982 (by decide +kernel) (by decide +kernel), tb_i 54 (by decide +kernel) (by decide +kernel), by decide +kernel⟩
theorem wI_X7_stirs : Cond.instanceMethod yX7_stirs ∈ TB := tb_i 981 (by decide +kernel) (by decide +kernel)
theorem wS_X7_stirs : Cond.selects yX7_stirs.cls yX7_stirs yX7_stirs ∈ TB := tb_i 37 (by decide +kernel) (by decide +kernel)
theorem wY_X7_has : YW yX7_has cX7_has 2 (some .boolean) 2 := ⟨tb_i 985 (by decide +kernel) (by decide +kernel), tb_i 54 (by decide +kernel) (by decide +kernel), by decide +kernel⟩
theorem wT_X7_has : Cond.static yX7_has ∈ TB := tb_i 984 (by decide +kernel) (by decide +kernel)
theorem wY_X7_ones : YW yX7_ones cX7_ones 3 (some .int) 1 := ⟨tb_i 988 (by decide +kernel) (by decide +kernel), tb_i 54 (by decide +kernel) (by decide +kernel), by decide +kernel⟩
theorem wT_X7_ones : Cond.static yX7_ones ∈ TB := tb_i 987 (by decide +kernel) (by decide +kernel)
theorem wY_X7_cheap : YW yX7_cheap cX7_cheap 7 (some .int) 2 := ⟨tb_i 992 (by decide +kernel) (by decide +kernel), tb_i 54 (by decide +kernel) (by decide +kernel), by decide +kernel⟩
theorem wI_X7_cheap : Cond.instanceMethod yX7_cheap ∈ TB := tb_i 990 (by decide +kernel) (by decide +kernel)
theorem wS_X7_cheap : Cond.selects yX7_cheap.cls yX7_cheap yX7_cheap ∈ TB := tb_i 991 (by decide +kernel) (by decide +kernel)
theorem wY_X7_worthOf : YW yX7_worthOf cX7_worthOf 4 (some .int) 1 := ⟨tb_i 996 (by decide +kernel) (by decide +kernel), tb_i 54 (by decide +kernel) (by decide +kernel), by decide +kernel⟩
theorem wI_X7_worthOf : Cond.instanceMethod yX7_worthOf ∈ TB := tb_i 995 (by decide +kernel) (by decide +kernel)
theorem wS_X7_worthOf : Cond.selects yX7_worthOf.cls yX7_worthOf yX7_worthOf ∈ TB := tb_i 38 (by decide +kernel) (by decide +kernel)
theorem wY_X7_deeper : YW yX7_deeper cX7_deeper 6 (some .int) 1 := ⟨tb_i 1000 (by decide +kernel) (by decide +kernel), tb_i 54 (by decide +kernel) (by decide +kernel), by decide +kernel⟩
theorem wI_X7_deeper : Cond.instanceMethod yX7_deeper ∈ TB := tb_i 998 (by decide +kernel) (by decide +kernel)
theorem wS_X7_deeper : Cond.selects yX7_deeper.cls yX7_deeper yX7_deeper ∈ TB := tb_i 999 (by decide +kernel) (by decide +kernel)
theorem wY_X7_years : YW yX7_years cX7_years 4 (some .int) 1 := ⟨tb_i 1004 (by decide +kernel) (by decide +kernel), tb_i 54 (by decide +kernel) (by decide +kernel), by decide +kernel⟩
theorem wI_X7_years : Cond.instanceMethod yX7_years ∈ TB := tb_i 1002 (by decide +kernel) (by decide +kernel)
theorem wS_X7_years : Cond.selects yX7_years.cls yX7_years yX7_years ∈ TB := tb_i 1003 (by decide +kernel) (by decide +kernel)
theorem wY_X7_seen : YW yX7_seen cX7_seen 4 (some .int) 3 := ⟨tb_i 1008 (by decide +kernel) (by decide +kernel), tb_i 54 (by decide +kernel) (by decide +kernel), by decide +kernel⟩
theorem wI_X7_seen : Cond.instanceMethod yX7_seen ∈ TB := tb_i 1006 (by decide +kernel) (by decide +kernel)
theorem wS_X7_seen : Cond.selects yX7_seen.cls yX7_seen yX7_seen ∈ TB := tb_i 1007 (by decide +kernel) (by decide +kernel)
theorem wY_X7_forget : YW yX7_forget cX7_forget 2 (some .int) 0 := ⟨tb_i 1012 (by decide +kernel) (by decide +kernel), tb_i 54 (by decide +kernel) (by decide +kernel), by decide +kernel⟩
theorem wI_X7_forget : Cond.instanceMethod yX7_forget ∈ TB := tb_i 1010 (by decide +kernel) (by decide +kernel)
theorem wS_X7_forget : Cond.selects yX7_forget.cls yX7_forget yX7_forget ∈ TB := tb_i 1011 (by decide +kernel) (by decide +kernel)
theorem wY_X7_plots : YW yX7_plots cX7_plots 4 (some .int) 1 := ⟨tb_i 1016 (by decide +kernel) (by decide +kernel), tb_i 54 (by decide +kernel) (by decide +kernel), by decide +kernel⟩
theorem wI_X7_plots : Cond.instanceMethod yX7_plots ∈ TB := tb_i 1014 (by decide +kernel) (by decide +kernel)
theorem wS_X7_plots : Cond.selects yX7_plots.cls yX7_plots yX7_plots ∈ TB := tb_i 1015 (by decide +kernel) (by decide +kernel)
theorem wY_X7_isSo : YW yX7_isSo cX7_isSo 4 (some .boolean) 0 := ⟨tb_i 1020 (by decide +kernel) (by decide +kernel), tb_i 54 (by decide +kernel) (by decide +kernel), by decide +kernel⟩
theorem wI_X7_isSo : Cond.instanceMethod yX7_isSo ∈ TB := tb_i 1019 (by decide +kernel) (by decide +kernel)
theorem wS_X7_isSo : Cond.selects yX7_isSo.cls yX7_isSo yX7_isSo ∈ TB := tb_i 39 (by decide +kernel) (by decide +kernel)
theorem wY_X7_kinds : YW yX7_kinds cX7_kinds 5 (some .int) 1 := ⟨tb_i 1024 (by decide +kernel) (by decide +kernel), tb_i 54 (by decide +kernel) (by decide +kernel), by decide +kernel⟩
theorem wI_X7_kinds : Cond.instanceMethod yX7_kinds ∈ TB := tb_i 1022 (by decide +kernel) (by decide +kernel)
theorem wS_X7_kinds : Cond.selects yX7_kinds.cls yX7_kinds yX7_kinds ∈ TB := tb_i 1023 (by decide +kernel) (by decide +kernel)
theorem wY_X7_likely : YW yX7_likely cX7_likely 11 (some .int) 4 := ⟨tb_i 1028 (by decide +kernel) (by decide +kernel), tb_i 54 (by decide +kernel) (by decide +kernel), by decide +kernel⟩
theorem wI_X7_likely : Cond.instanceMethod yX7_likely ∈ TB := tb_i 1026 (by decide +kernel) (by decide +kernel)
theorem wS_X7_likely : Cond.selects yX7_likely.cls yX7_likely yX7_likely ∈ TB := tb_i 1027 (by decide +kernel) (by decide +kernel)
theorem wY_X7_decade : YW yX7_decade cX7_decade 7 (some .int) 3 := ⟨tb_i 1032 (by decide +kernel) (by decide +kernel), tb_i 54 (by decide +kernel) (by decide +kernel), by decide +kernel⟩
theorem wI_X7_decade : Cond.instanceMethod yX7_decade ∈ TB := tb_i 1030 (by decide +kernel) (by decide +kernel)
theorem wS_X7_decade : Cond.selects yX7_decade.cls yX7_decade yX7_decade ∈ TB := tb_i 1031 (by decide +kernel) (by decide +kernel)
theorem wY_X7_turn : YW yX7_turn cX7_turn 4 none 1 := ⟨tb_i 1040 (by decide +kernel) (by decide +kernel), tb_i 54 (by decide +kernel) (by decide +kernel), by decide +kernel⟩
theorem wI_X7_turn : Cond.instanceMethod yX7_turn ∈ TB := tb_i 1039 (by decide +kernel) (by decide +kernel)
theorem wS_X7_turn : Cond.selects yX7_turn.cls yX7_turn yX7_turn ∈ TB := tb_i 40 (by decide +kernel) (by decide +kernel)
theorem wY_X7_keep : YW yX7_keep cX7_keep 2 (some .int) 0 := ⟨tb_i 1044 (by decide +kernel) (by decide +kernel), tb_i 54 (by decide +kernel) (by decide +kernel), by decide +kernel⟩
theorem wI_X7_keep : Cond.instanceMethod yX7_keep ∈ TB := tb_i 1042 (by decide +kernel) (by decide +kernel)
theorem wS_X7_keep : Cond.selects yX7_keep.cls yX7_keep yX7_keep ∈ TB := tb_i 1043 (by decide +kernel) (by decide +kernel)
theorem wY_X7_back : YW yX7_back cX7_back 2 (some .int) 0 := ⟨tb_i 1048 (by decide +kernel) (by decide +kernel), tb_i 54 (by decide +kernel) (by decide +kernel), by decide +kernel⟩
theorem wI_X7_back : Cond.instanceMethod yX7_back ∈ TB := tb_i 1046 (by decide +kernel) (by decide +kernel)
theorem wS_X7_back : Cond.selects yX7_back.cls yX7_back yX7_back ∈ TB := tb_i 1047 (by decide +kernel) (by decide +kernel)
theorem wY_X7_count : YW yX7_count cX7_count 2 (some .int) 1 := ⟨tb_i 1052 (by decide +kernel) (by decide +kernel), tb_i 54 (by decide +kernel) (by decide +kernel), by decide +kernel⟩
theorem wI_X7_count : Cond.instanceMethod yX7_count ∈ TB := tb_i 1050 (by decide +kernel) (by decide +kernel)
theorem wS_X7_count : Cond.selects yX7_count.cls yX7_count yX7_count ∈ TB := tb_i 1051 (by decide +kernel) (by decide +kernel)
theorem wF_X3_19 : FW RX3 19 3 0 := tb_i 70 (by decide +kernel) (by decide +kernel)
theorem wF_X6_82 : FW RX6 82 3 0 := tb_i 71 (by decide +kernel) (by decide +kernel)
theorem wF_X3_11 : FW RX3 11 3 1 := tb_i 72 (by decide +kernel) (by decide +kernel)
theorem wF_X3_15 : FW RX3 15 3 2 := tb_i 73 (by decide +kernel) (by decide +kernel)
theorem wF_X0_30 : FW RX0 30 0 0 := tb_i 93 (by decide +kernel) (by decide +kernel)
theorem wF_X6_85 : FW RX6 85 0 0 := tb_i 94 (by decide +kernel) (by decide +kernel)
theorem wF_X2_79 : FW RX2 79 0 0 := tb_i 95 (by decide +kernel) (by decide +kernel)
theorem wF_X0_34 : FW RX0 34 0 1 := tb_i 96 (by decide +kernel) (by decide +kernel)
theorem wF_X2_69 : FW RX2 69 0 1 := tb_i 97 (by decide +kernel) (by decide +kernel)
theorem wF_X6_88 : FW RX6 88 0 1 := tb_i 98 (by decide +kernel) (by decide +kernel)
theorem wF_X0_37 : FW RX0 37 0 2 := tb_i 99 (by decide +kernel) (by decide +kernel)
theorem wF_X6_143 : FW RX6 143 0 2 := tb_i 100 (by decide +kernel) (by decide +kernel)
theorem wF_X0_40 : FW RX0 40 0 3 := tb_i 101 (by decide +kernel) (by decide +kernel)
theorem wF_X6_219 : FW RX6 219 0 3 := tb_i 102 (by decide +kernel) (by decide +kernel)
theorem wF_X0_43 : FW RX0 43 0 4 := tb_i 103 (by decide +kernel) (by decide +kernel)
theorem wF_X0_9 : FW RX0 9 0 5 := tb_i 104 (by decide +kernel) (by decide +kernel)
theorem wF_X0_15 : FW RX0 15 0 6 := tb_i 105 (by decide +kernel) (by decide +kernel)
theorem wF_X0_18 : FW RX0 18 0 7 := tb_i 106 (by decide +kernel) (by decide +kernel)
theorem wF_X0_21 : FW RX0 21 0 8 := tb_i 107 (by decide +kernel) (by decide +kernel)
theorem wF_X0_24 : FW RX0 24 0 9 := tb_i 108 (by decide +kernel) (by decide +kernel)
theorem wF_X4_22 : FW RX4 22 4 0 := tb_i 142 (by decide +kernel) (by decide +kernel)
theorem wF_X6_169 : FW RX6 169 4 0 := tb_i 143 (by decide +kernel) (by decide +kernel)
theorem wF_X4_26 : FW RX4 26 4 1 := tb_i 144 (by decide +kernel) (by decide +kernel)
theorem wF_X4_15 : FW RX4 15 4 2 := tb_i 145 (by decide +kernel) (by decide +kernel)
theorem wF_X5_22 : FW RX5 22 5 0 := tb_i 159 (by decide +kernel) (by decide +kernel)
theorem wF_X6_195 : FW RX6 195 5 0 := tb_i 160 (by decide +kernel) (by decide +kernel)
theorem wF_X5_11 : FW RX5 11 5 1 := tb_i 161 (by decide +kernel) (by decide +kernel)
theorem wF_X5_15 : FW RX5 15 5 2 := tb_i 162 (by decide +kernel) (by decide +kernel)
theorem wF_X5_18 : FW RX5 18 5 3 := tb_i 163 (by decide +kernel) (by decide +kernel)
theorem wF_X2_47 : FW RX2 47 2 0 := tb_i 180 (by decide +kernel) (by decide +kernel)
theorem wF_X2_9 : FW RX2 9 2 1 := tb_i 181 (by decide +kernel) (by decide +kernel)
theorem wF_X2_15 : FW RX2 15 2 2 := tb_i 182 (by decide +kernel) (by decide +kernel)
theorem wF_X2_19 : FW RX2 19 2 3 := tb_i 183 (by decide +kernel) (by decide +kernel)
theorem wF_X2_22 : FW RX2 22 2 4 := tb_i 184 (by decide +kernel) (by decide +kernel)
theorem wF_X2_25 : FW RX2 25 2 5 := tb_i 185 (by decide +kernel) (by decide +kernel)
theorem wF_X2_28 : FW RX2 28 2 6 := tb_i 186 (by decide +kernel) (by decide +kernel)
theorem wF_X1_23 : FW RX1 23 1 0 := tb_i 208 (by decide +kernel) (by decide +kernel)
theorem wF_X6_213 : FW RX6 213 1 0 := tb_i 209 (by decide +kernel) (by decide +kernel)
theorem wF_X1_27 : FW RX1 27 1 1 := tb_i 210 (by decide +kernel) (by decide +kernel)
theorem wF_X6_216 : FW RX6 216 1 1 := tb_i 211 (by decide +kernel) (by decide +kernel)
theorem wF_X1_9 : FW RX1 9 1 2 := tb_i 212 (by decide +kernel) (by decide +kernel)
theorem wF_X6_12 : FW RX6 12 6 0 := tb_i 379 (by decide +kernel) (by decide +kernel)
theorem wF_X6_19 : FW RX6 19 6 1 := tb_i 380 (by decide +kernel) (by decide +kernel)
theorem wF_X6_23 : FW RX6 23 6 2 := tb_i 381 (by decide +kernel) (by decide +kernel)
theorem wF_X6_31 : FW RX6 31 6 3 := tb_i 382 (by decide +kernel) (by decide +kernel)
theorem wF_X6_35 : FW RX6 35 6 4 := tb_i 383 (by decide +kernel) (by decide +kernel)
theorem wF_X6_41 : FW RX6 41 6 5 := tb_i 384 (by decide +kernel) (by decide +kernel)
theorem wF_X6_48 : FW RX6 48 6 6 := tb_i 385 (by decide +kernel) (by decide +kernel)
theorem wF_X6_55 : FW RX6 55 6 7 := tb_i 386 (by decide +kernel) (by decide +kernel)
theorem wF_X7_7 : FW RX7 7 7 0 := tb_i 758 (by decide +kernel) (by decide +kernel)
theorem wF_X7_81 : FW RX7 81 7 1 := tb_i 759 (by decide +kernel) (by decide +kernel)
theorem wF_X7_13 : FW RX7 13 7 2 := tb_i 760 (by decide +kernel) (by decide +kernel)
theorem wF_X7_16 : FW RX7 16 7 3 := tb_i 761 (by decide +kernel) (by decide +kernel)
theorem wF_X7_19 : FW RX7 19 7 4 := tb_i 762 (by decide +kernel) (by decide +kernel)
theorem wF_X7_22 : FW RX7 22 7 5 := tb_i 763 (by decide +kernel) (by decide +kernel)
theorem wF_X7_121 : FW RX7 121 7 6 := tb_i 764 (by decide +kernel) (by decide +kernel)
theorem wF_X7_25 : FW RX7 25 7 7 := tb_i 765 (by decide +kernel) (by decide +kernel)
theorem wF_X7_124 : FW RX7 124 7 8 := tb_i 766 (by decide +kernel) (by decide +kernel)
theorem wF_X7_28 : FW RX7 28 7 9 := tb_i 767 (by decide +kernel) (by decide +kernel)
theorem wF_X7_127 : FW RX7 127 7 10 := tb_i 768 (by decide +kernel) (by decide +kernel)
theorem wF_X7_85 : FW RX7 85 7 11 := tb_i 769 (by decide +kernel) (by decide +kernel)
theorem wF_X7_31 : FW RX7 31 7 12 := tb_i 770 (by decide +kernel) (by decide +kernel)
theorem wF_X7_34 : FW RX7 34 7 13 := tb_i 771 (by decide +kernel) (by decide +kernel)
theorem wF_X7_37 : FW RX7 37 7 14 := tb_i 772 (by decide +kernel) (by decide +kernel)
theorem wF_X7_40 : FW RX7 40 7 15 := tb_i 773 (by decide +kernel) (by decide +kernel)
theorem wF_X7_43 : FW RX7 43 7 16 := tb_i 774 (by decide +kernel) (by decide +kernel)
theorem wF_X7_46 : FW RX7 46 7 17 := tb_i 775 (by decide +kernel) (by decide +kernel)
theorem wL_L_9 : Cond.methodLink RL 9 yX6_init ∈ TB := tb_i 58 (by decide +kernel) (by decide +kernel)
theorem wL_X6_11 : Cond.methodLink RX6 11 yX3_init ∈ TB := tb_i 66 (by decide +kernel) (by decide +kernel)
theorem wL_X6_18 : Cond.methodLink RX6 18 yX0_init ∈ TB := tb_i 85 (by decide +kernel) (by decide +kernel)
theorem wL_X0_27 : Cond.methodLink RX0 27 yX0_clear ∈ TB := tb_i 89 (by decide +kernel) (by decide +kernel)
theorem wL_X6_28 : Cond.methodLink RX6 28 yX4_init ∈ TB := tb_i 132 (by decide +kernel) (by decide +kernel)
theorem wL_X4_21 : Cond.methodLink RX4 21 yX0_init ∈ TB := tb_i 141 (by decide +kernel) (by decide +kernel)
theorem wL_X6_40 : Cond.methodLink RX6 40 yX5_init ∈ TB := tb_i 155 (by decide +kernel) (by decide +kernel)
theorem wL_X6_47 : Cond.methodLink RX6 47 yX2_init ∈ TB := tb_i 176 (by decide +kernel) (by decide +kernel)
theorem wL_X6_54 : Cond.methodLink RX6 54 yX1_init ∈ TB := tb_i 204 (by decide +kernel) (by decide +kernel)
theorem wL_X6_71 : Cond.methodLink RX6 71 yX3_add ∈ TB := tb_i 269 (by decide +kernel) (by decide +kernel)
theorem wL_X6_75 : Cond.methodLink RX6 75 yX3_readInto ∈ TB := tb_i 273 (by decide +kernel) (by decide +kernel)
theorem wL_X3_23 : Cond.methodLink RX3 23 yX0_clear ∈ TB := tb_i 277 (by decide +kernel) (by decide +kernel)
theorem wL_X3_28 : Cond.methodLink RX3 28 yX3_readItem ∈ TB := tb_i 278 (by decide +kernel) (by decide +kernel)
theorem wL_X3_32 : Cond.methodLink RX3 32 yX3_letterAt ∈ TB := tb_i 282 (by decide +kernel) (by decide +kernel)
theorem wL_X3_40 : Cond.methodLink RX3 40 yX3_numbersOf ∈ TB := tb_i 286 (by decide +kernel) (by decide +kernel)
theorem wL_X3_44 : Cond.methodLink RX3 44 yX3_figuresAt ∈ TB := tb_i 289 (by decide +kernel) (by decide +kernel)
theorem wL_X3_51 : Cond.methodLink RX3 51 yX3_isFigure ∈ TB := tb_i 293 (by decide +kernel) (by decide +kernel)
theorem wL_X3_47 : Cond.methodLink RX3 47 yX3_numberAt ∈ TB := tb_i 296 (by decide +kernel) (by decide +kernel)
theorem wL_X3_36 : Cond.methodLink RX3 36 yX3_tell ∈ TB := tb_i 300 (by decide +kernel) (by decide +kernel)
theorem wL_X3_55 : Cond.methodLink RX3 55 yX0_addPlot ∈ TB := tb_i 304 (by decide +kernel) (by decide +kernel)
theorem wL_X3_59 : Cond.methodLink RX3 59 yX0_addLyingHour ∈ TB := tb_i 311 (by decide +kernel) (by decide +kernel)
theorem wL_X0_51 : Cond.methodLink RX0 51 yX0_addHour ∈ TB := tb_i 315 (by decide +kernel) (by decide +kernel)
theorem wL_X0_55 : Cond.methodLink RX0 55 yX0_hasRoomFor ∈ TB := tb_i 319 (by decide +kernel) (by decide +kernel)
theorem wL_X0_66 : Cond.methodLink RX0 66 yX0_hasHour ∈ TB := tb_i 323 (by decide +kernel) (by decide +kernel)
theorem wL_X0_62 : Cond.methodLink RX0 62 yX0_hasPlot ∈ TB := tb_i 327 (by decide +kernel) (by decide +kernel)
theorem wL_X0_86 : Cond.methodLink RX0 86 yX0_placeOf ∈ TB := tb_i 331 (by decide +kernel) (by decide +kernel)
theorem wL_X0_89 : Cond.methodLink RX0 89 yX0_topOf ∈ TB := tb_i 335 (by decide +kernel) (by decide +kernel)
theorem wL_X0_69 : Cond.methodLink RX0 69 yX0_heightOf ∈ TB := tb_i 339 (by decide +kernel) (by decide +kernel)
theorem wL_X0_73 : Cond.methodLink RX0 73 yX0_hourAt ∈ TB := tb_i 343 (by decide +kernel) (by decide +kernel)
theorem wL_X0_92 : Cond.methodLink RX0 92 yX0_kindOf ∈ TB := tb_i 347 (by decide +kernel) (by decide +kernel)
theorem wL_X0_77 : Cond.methodLink RX0 77 yX0_needAbove ∈ TB := tb_i 351 (by decide +kernel) (by decide +kernel)
theorem wL_X0_95 : Cond.methodLink RX0 95 yX0_freeIn ∈ TB := tb_i 354 (by decide +kernel) (by decide +kernel)
theorem wL_X0_80 : Cond.methodLink RX0 80 yX0_roomOf ∈ TB := tb_i 358 (by decide +kernel) (by decide +kernel)
theorem wL_X0_83 : Cond.methodLink RX0 83 yX0_needOf ∈ TB := tb_i 362 (by decide +kernel) (by decide +kernel)
theorem wL_X0_58 : Cond.methodLink RX0 58 yX0_setOnTop ∈ TB := tb_i 366 (by decide +kernel) (by decide +kernel)
theorem wL_X3_63 : Cond.methodLink RX3 63 yX0_addHour ∈ TB := tb_i 370 (by decide +kernel) (by decide +kernel)
theorem wL_X3_67 : Cond.methodLink RX3 67 yX0_addFrost ∈ TB := tb_i 371 (by decide +kernel) (by decide +kernel)
theorem wL_X6_79 : Cond.methodLink RX6 79 yX3_empty ∈ TB := tb_i 375 (by decide +kernel) (by decide +kernel)
theorem wL_L_13 : Cond.methodLink RL 13 yX6_write ∈ TB := tb_i 405 (by decide +kernel) (by decide +kernel)
theorem wL_L_18 : Cond.methodLink RL 18 yX6_wipe ∈ TB := tb_i 409 (by decide +kernel) (by decide +kernel)
theorem wL_L_23 : Cond.methodLink RL 23 yX6_fault ∈ TB := tb_i 413 (by decide +kernel) (by decide +kernel)
theorem wL_L_27 : Cond.methodLink RL 27 yX6_lay ∈ TB := tb_i 417 (by decide +kernel) (by decide +kernel)
theorem wL_X6_91 : Cond.methodLink RX6 91 yX0_copyFrom ∈ TB := tb_i 421 (by decide +kernel) (by decide +kernel)
theorem wL_X6_95 : Cond.methodLink RX6 95 yX4_empty ∈ TB := tb_i 425 (by decide +kernel) (by decide +kernel)
theorem wL_X6_97 : Cond.methodLink RX6 97 yX5_empty ∈ TB := tb_i 429 (by decide +kernel) (by decide +kernel)
theorem wL_L_31 : Cond.methodLink RL 31 yX6_plot ∈ TB := tb_i 433 (by decide +kernel) (by decide +kernel)
theorem wL_X6_98 : Cond.methodLink RX6 98 yX0_hasPlot ∈ TB := tb_i 437 (by decide +kernel) (by decide +kernel)
theorem wL_X6_101 : Cond.methodLink RX6 101 yX0_roomOf ∈ TB := tb_i 438 (by decide +kernel) (by decide +kernel)
theorem wL_X6_105 : Cond.methodLink RX6 105 yX0_freeIn ∈ TB := tb_i 439 (by decide +kernel) (by decide +kernel)
theorem wL_X6_108 : Cond.methodLink RX6 108 yX0_heightOf ∈ TB := tb_i 440 (by decide +kernel) (by decide +kernel)
theorem wL_X6_111 : Cond.methodLink RX6 111 yX0_topOf ∈ TB := tb_i 441 (by decide +kernel) (by decide +kernel)
theorem wL_L_36 : Cond.methodLink RL 36 yX6_hour ∈ TB := tb_i 442 (by decide +kernel) (by decide +kernel)
theorem wL_X6_114 : Cond.methodLink RX6 114 yX0_hasHour ∈ TB := tb_i 446 (by decide +kernel) (by decide +kernel)
theorem wL_X6_117 : Cond.methodLink RX6 117 yX0_kindOf ∈ TB := tb_i 447 (by decide +kernel) (by decide +kernel)
theorem wL_X6_120 : Cond.methodLink RX6 120 yX0_worthOf ∈ TB := tb_i 448 (by decide +kernel) (by decide +kernel)
theorem wL_X6_123 : Cond.methodLink RX6 123 yX0_placeOf ∈ TB := tb_i 452 (by decide +kernel) (by decide +kernel)
theorem wL_X6_126 : Cond.methodLink RX6 126 yX0_lies ∈ TB := tb_i 453 (by decide +kernel) (by decide +kernel)
theorem wL_X6_129 : Cond.methodLink RX6 129 yX0_depthOf ∈ TB := tb_i 457 (by decide +kernel) (by decide +kernel)
theorem wL_X6_132 : Cond.methodLink RX6 132 yX0_needOf ∈ TB := tb_i 461 (by decide +kernel) (by decide +kernel)
theorem wL_L_40 : Cond.methodLink RL 40 yX6_fits ∈ TB := tb_i 462 (by decide +kernel) (by decide +kernel)
theorem wL_X6_135 : Cond.methodLink RX6 135 yX0_hasRoomFor ∈ TB := tb_i 466 (by decide +kernel) (by decide +kernel)
theorem wL_L_44 : Cond.methodLink RL 44 yX6_pass ∈ TB := tb_i 467 (by decide +kernel) (by decide +kernel)
theorem wL_X6_139 : Cond.methodLink RX6 139 yX6_isWithin ∈ TB := tb_i 471 (by decide +kernel) (by decide +kernel)
theorem wL_X6_146 : Cond.methodLink RX6 146 yX4_store ∈ TB := tb_i 472 (by decide +kernel) (by decide +kernel)
theorem wL_X4_29 : Cond.methodLink RX4 29 yX4_slotAt ∈ TB := tb_i 476 (by decide +kernel) (by decide +kernel)
theorem wL_X4_33 : Cond.methodLink RX4 33 yX0_copyFrom ∈ TB := tb_i 480 (by decide +kernel) (by decide +kernel)
theorem wL_X4_37 : Cond.methodLink RX4 37 yX4_isFull ∈ TB := tb_i 481 (by decide +kernel) (by decide +kernel)
theorem wL_X6_149 : Cond.methodLink RX6 149 yX0_passYears ∈ TB := tb_i 485 (by decide +kernel) (by decide +kernel)
theorem wL_X0_111 : Cond.methodLink RX0 111 yX0_rabbitPlot ∈ TB := tb_i 489 (by decide +kernel) (by decide +kernel)
theorem wL_X0_114 : Cond.methodLink RX0 114 yX0_isLoose ∈ TB := tb_i 493 (by decide +kernel) (by decide +kernel)
theorem wL_L_48 : Cond.methodLink RL 48 yX6_put ∈ TB := tb_i 496 (by decide +kernel) (by decide +kernel)
theorem wL_X6_152 : Cond.methodLink RX6 152 yX0_canBePutIn ∈ TB := tb_i 500 (by decide +kernel) (by decide +kernel)
theorem wL_X0_98 : Cond.methodLink RX0 98 yX0_lies ∈ TB := tb_i 504 (by decide +kernel) (by decide +kernel)
theorem wL_X0_101 : Cond.methodLink RX0 101 yX0_isFrost ∈ TB := tb_i 505 (by decide +kernel) (by decide +kernel)
theorem wL_X6_155 : Cond.methodLink RX6 155 yX0_setOnTop ∈ TB := tb_i 509 (by decide +kernel) (by decide +kernel)
theorem wL_L_52 : Cond.methodLink RL 52 yX6_up ∈ TB := tb_i 510 (by decide +kernel) (by decide +kernel)
theorem wL_X6_159 : Cond.methodLink RX6 159 yX0_takeUp ∈ TB := tb_i 514 (by decide +kernel) (by decide +kernel)
theorem wL_X0_108 : Cond.methodLink RX0 108 yX0_isAbove ∈ TB := tb_i 518 (by decide +kernel) (by decide +kernel)
theorem wL_X0_105 : Cond.methodLink RX0 105 yX0_depthOf ∈ TB := tb_i 522 (by decide +kernel) (by decide +kernel)
theorem wL_L_56 : Cond.methodLink RL 56 yX6_dig ∈ TB := tb_i 523 (by decide +kernel) (by decide +kernel)
theorem wL_X6_162 : Cond.methodLink RX6 162 yX0_deepen ∈ TB := tb_i 527 (by decide +kernel) (by decide +kernel)
theorem wL_L_60 : Cond.methodLink RL 60 yX6_undo ∈ TB := tb_i 531 (by decide +kernel) (by decide +kernel)
theorem wL_X6_165 : Cond.methodLink RX6 165 yX4_fetchInto ∈ TB := tb_i 535 (by decide +kernel) (by decide +kernel)
theorem wL_L_64 : Cond.methodLink RL 64 yX6_out ∈ TB := tb_i 539 (by decide +kernel) (by decide +kernel)
theorem wL_L_68 : Cond.methodLink RL 68 yX6_behind ∈ TB := tb_i 543 (by decide +kernel) (by decide +kernel)
theorem wL_L_72 : Cond.methodLink RL 72 yX6_above ∈ TB := tb_i 547 (by decide +kernel) (by decide +kernel)
theorem wL_X6_172 : Cond.methodLink RX6 172 yX0_bitsAbove ∈ TB := tb_i 551 (by decide +kernel) (by decide +kernel)
theorem wL_L_76 : Cond.methodLink RL 76 yX6_packs ∈ TB := tb_i 555 (by decide +kernel) (by decide +kernel)
theorem wL_X6_175 : Cond.methodLink RX6 175 yX2_mostOf ∈ TB := tb_i 559 (by decide +kernel) (by decide +kernel)
theorem wL_X2_31 : Cond.methodLink RX2 31 yX0_topOf ∈ TB := tb_i 563 (by decide +kernel) (by decide +kernel)
theorem wL_X2_37 : Cond.methodLink RX2 37 yX0_kindOf ∈ TB := tb_i 564 (by decide +kernel) (by decide +kernel)
theorem wL_X2_40 : Cond.methodLink RX2 40 yX0_freeIn ∈ TB := tb_i 565 (by decide +kernel) (by decide +kernel)
theorem wL_X2_43 : Cond.methodLink RX2 43 yX2_lookAhead ∈ TB := tb_i 566 (by decide +kernel) (by decide +kernel)
theorem wL_X2_55 : Cond.methodLink RX2 55 yX0_hasHour ∈ TB := tb_i 570 (by decide +kernel) (by decide +kernel)
theorem wL_X2_59 : Cond.methodLink RX2 59 yX0_lies ∈ TB := tb_i 571 (by decide +kernel) (by decide +kernel)
theorem wL_X2_62 : Cond.methodLink RX2 62 yX0_needAbove ∈ TB := tb_i 572 (by decide +kernel) (by decide +kernel)
theorem wL_X2_66 : Cond.methodLink RX2 66 yX0_worthOf ∈ TB := tb_i 573 (by decide +kernel) (by decide +kernel)
theorem wL_X2_51 : Cond.methodLink RX2 51 yX2_tryFrom ∈ TB := tb_i 574 (by decide +kernel) (by decide +kernel)
theorem wL_X2_72 : Cond.methodLink RX2 72 yX2_choose ∈ TB := tb_i 577 (by decide +kernel) (by decide +kernel)
theorem wL_X2_76 : Cond.methodLink RX2 76 yX0_placeOf ∈ TB := tb_i 581 (by decide +kernel) (by decide +kernel)
theorem wL_X2_82 : Cond.methodLink RX2 82 yX2_tryIn ∈ TB := tb_i 582 (by decide +kernel) (by decide +kernel)
theorem wL_X2_86 : Cond.methodLink RX2 86 yX2_hasTwinAhead ∈ TB := tb_i 585 (by decide +kernel) (by decide +kernel)
theorem wL_X6_179 : Cond.methodLink RX6 179 yX2_placeOf ∈ TB := tb_i 589 (by decide +kernel) (by decide +kernel)
theorem wL_L_80 : Cond.methodLink RL 80 yX6_stir ∈ TB := tb_i 593 (by decide +kernel) (by decide +kernel)
theorem wL_X6_180 : Cond.methodLink RX6 180 yX0_setCount ∈ TB := tb_i 597 (by decide +kernel) (by decide +kernel)
theorem wL_X6_183 : Cond.methodLink RX6 183 yX0_allLie ∈ TB := tb_i 601 (by decide +kernel) (by decide +kernel)
theorem wL_X6_186 : Cond.methodLink RX6 186 yX0_stirOf ∈ TB := tb_i 605 (by decide +kernel) (by decide +kernel)
theorem wL_X0_126 : Cond.methodLink RX0 126 yX0_bitsAbove ∈ TB := tb_i 609 (by decide +kernel) (by decide +kernel)
theorem wL_X0_129 : Cond.methodLink RX0 129 yJ6_bitCount_0f7a4 ∈ TB := tb_i 610 (by decide +kernel) (by decide +kernel)
theorem wL_L_84 : Cond.methodLink RL 84 yX6_cheap ∈ TB := tb_i 616 (by decide +kernel) (by decide +kernel)
theorem wL_X6_189 : Cond.methodLink RX6 189 yX0_cheapestSet ∈ TB := tb_i 620 (by decide +kernel) (by decide +kernel)
theorem wL_X0_135 : Cond.methodLink RX0 135 yX0_setCount ∈ TB := tb_i 625 (by decide +kernel) (by decide +kernel)
theorem wL_X0_139 : Cond.methodLink RX0 139 yX0_worthOfSet ∈ TB := tb_i 626 (by decide +kernel) (by decide +kernel)
theorem wL_X0_123 : Cond.methodLink RX0 123 yX0_worthOf ∈ TB := tb_i 630 (by decide +kernel) (by decide +kernel)
theorem wL_X0_142 : Cond.methodLink RX0 142 yX0_allLie ∈ TB := tb_i 631 (by decide +kernel) (by decide +kernel)
theorem wL_X0_145 : Cond.methodLink RX0 145 yX0_stirOf ∈ TB := tb_i 632 (by decide +kernel) (by decide +kernel)
theorem wL_L_88 : Cond.methodLink RL 88 yX6_deeper ∈ TB := tb_i 633 (by decide +kernel) (by decide +kernel)
theorem wL_L_92 : Cond.methodLink RL 92 yX6_years ∈ TB := tb_i 637 (by decide +kernel) (by decide +kernel)
theorem wL_L_96 : Cond.methodLink RL 96 yX6_seen ∈ TB := tb_i 641 (by decide +kernel) (by decide +kernel)
theorem wL_X6_192 : Cond.methodLink RX6 192 yX5_add ∈ TB := tb_i 645 (by decide +kernel) (by decide +kernel)
theorem wL_L_101 : Cond.methodLink RL 101 yX6_forget ∈ TB := tb_i 649 (by decide +kernel) (by decide +kernel)
theorem wL_L_105 : Cond.methodLink RL 105 yX6_plots ∈ TB := tb_i 653 (by decide +kernel) (by decide +kernel)
theorem wL_X6_196 : Cond.methodLink RX6 196 yX5_comeTrueIn ∈ TB := tb_i 657 (by decide +kernel) (by decide +kernel)
theorem wL_X5_26 : Cond.methodLink RX5 26 yX0_lies ∈ TB := tb_i 661 (by decide +kernel) (by decide +kernel)
theorem wL_X5_32 : Cond.methodLink RX5 32 yX0_passYears ∈ TB := tb_i 662 (by decide +kernel) (by decide +kernel)
theorem wL_L_109 : Cond.methodLink RL 109 yX6_kinds ∈ TB := tb_i 663 (by decide +kernel) (by decide +kernel)
theorem wL_X6_199 : Cond.methodLink RX6 199 yX0_setKind ∈ TB := tb_i 667 (by decide +kernel) (by decide +kernel)
theorem wL_L_113 : Cond.methodLink RL 113 yX6_likely ∈ TB := tb_i 671 (by decide +kernel) (by decide +kernel)
theorem wL_X6_202 : Cond.methodLink RX6 202 yX0_visitsTo ∈ TB := tb_i 675 (by decide +kernel) (by decide +kernel)
theorem wL_X6_206 : Cond.methodLink RX6 206 yX0_throwsBorneBy ∈ TB := tb_i 679 (by decide +kernel) (by decide +kernel)
theorem wL_X6_209 : Cond.methodLink RX6 209 yX1_reckon ∈ TB := tb_i 683 (by decide +kernel) (by decide +kernel)
theorem wL_X1_15 : Cond.methodLink RX1 15 yX1_spread ∈ TB := tb_i 687 (by decide +kernel) (by decide +kernel)
theorem wL_X1_19 : Cond.methodLink RX1 19 yX1_commonDivisor ∈ TB := tb_i 691 (by decide +kernel) (by decide +kernel)
theorem wL_L_118 : Cond.methodLink RL 118 yX6_decade ∈ TB := tb_i 694 (by decide +kernel) (by decide +kernel)
theorem wL_X6_222 : Cond.methodLink RX6 222 yX6_drawOf ∈ TB := tb_i 698 (by decide +kernel) (by decide +kernel)
theorem wL_X6_225 : Cond.methodLink RX6 225 yX0_actByDraw ∈ TB := tb_i 705 (by decide +kernel) (by decide +kernel)
theorem wL_X0_117 : Cond.methodLink RX0 117 yX0_canBePutIn ∈ TB := tb_i 709 (by decide +kernel) (by decide +kernel)
theorem wL_X0_120 : Cond.methodLink RX0 120 yX0_takeUp ∈ TB := tb_i 710 (by decide +kernel) (by decide +kernel)
theorem wL_X6_228 : Cond.methodLink RX6 228 yX0_lyingCount ∈ TB := tb_i 711 (by decide +kernel) (by decide +kernel)
theorem wL_X6_231 : Cond.methodLink RX6 231 yX0_lyingWorth ∈ TB := tb_i 715 (by decide +kernel) (by decide +kernel)
theorem wL_L_122 : Cond.methodLink RL 122 yX6_keep ∈ TB := tb_i 719 (by decide +kernel) (by decide +kernel)
theorem wL_X6_234 : Cond.methodLink RX6 234 yX4_isFull ∈ TB := tb_i 723 (by decide +kernel) (by decide +kernel)
theorem wL_L_126 : Cond.methodLink RL 126 yX6_back ∈ TB := tb_i 724 (by decide +kernel) (by decide +kernel)
theorem wL_L_130 : Cond.methodLink RL 130 yX6_count ∈ TB := tb_i 728 (by decide +kernel) (by decide +kernel)
theorem wL_X6_238 : Cond.methodLink RX6 238 yX0_isFrost ∈ TB := tb_i 732 (by decide +kernel) (by decide +kernel)
theorem wL_L_12 : Cond.methodLink RL 12 yX7_init ∈ TB := tb_i 735 (by decide +kernel) (by decide +kernel)
theorem wL_X7_49 : Cond.methodLink RX7 49 yX7_holds ∈ TB := tb_i 739 (by decide +kernel) (by decide +kernel)
theorem wL_X7_56 : Cond.methodLink RX7 56 yX7_in ∈ TB := tb_i 743 (by decide +kernel) (by decide +kernel)
theorem wL_X7_52 : Cond.methodLink RX7 52 yX7_newHour ∈ TB := tb_i 746 (by decide +kernel) (by decide +kernel)
theorem wL_X7_95 : Cond.methodLink RX7 95 yX7_lays ∈ TB := tb_i 750 (by decide +kernel) (by decide +kernel)
theorem wL_X7_60 : Cond.methodLink RX7 60 yX7_manyIn ∈ TB := tb_i 754 (by decide +kernel) (by decide +kernel)
theorem wL_L_17 : Cond.methodLink RL 17 yX7_write ∈ TB := tb_i 813 (by decide +kernel) (by decide +kernel)
theorem wL_L_22 : Cond.methodLink RL 22 yX7_wipe ∈ TB := tb_i 817 (by decide +kernel) (by decide +kernel)
theorem wL_L_26 : Cond.methodLink RL 26 yX7_fault ∈ TB := tb_i 821 (by decide +kernel) (by decide +kernel)
theorem wL_X7_114 : Cond.methodLink RX7 114 yX7_readsAll ∈ TB := tb_i 825 (by decide +kernel) (by decide +kernel)
theorem wL_X7_111 : Cond.methodLink RX7 111 yX7_readsItem ∈ TB := tb_i 829 (by decide +kernel) (by decide +kernel)
theorem wL_X7_99 : Cond.methodLink RX7 99 yX7_number ∈ TB := tb_i 833 (by decide +kernel) (by decide +kernel)
theorem wL_X7_88 : Cond.methodLink RX7 88 yX7_letterAt ∈ TB := tb_i 837 (by decide +kernel) (by decide +kernel)
theorem wL_X7_91 : Cond.methodLink RX7 91 yX7_isFigure ∈ TB := tb_i 841 (by decide +kernel) (by decide +kernel)
theorem wL_X7_107 : Cond.methodLink RX7 107 yX7_readsHour ∈ TB := tb_i 844 (by decide +kernel) (by decide +kernel)
theorem wL_X7_103 : Cond.methodLink RX7 103 yX7_isFit ∈ TB := tb_i 848 (by decide +kernel) (by decide +kernel)
theorem wL_X7_75 : Cond.methodLink RX7 75 yX7_topOf ∈ TB := tb_i 852 (by decide +kernel) (by decide +kernel)
theorem wL_X7_64 : Cond.methodLink RX7 64 yX7_lying ∈ TB := tb_i 856 (by decide +kernel) (by decide +kernel)
theorem wL_X7_68 : Cond.methodLink RX7 68 yX7_kindOf ∈ TB := tb_i 860 (by decide +kernel) (by decide +kernel)
theorem wL_X7_78 : Cond.methodLink RX7 78 yX7_allNeeds ∈ TB := tb_i 864 (by decide +kernel) (by decide +kernel)
theorem wL_X7_72 : Cond.methodLink RX7 72 yX7_needs ∈ TB := tb_i 868 (by decide +kernel) (by decide +kernel)
theorem wL_X7_118 : Cond.methodLink RX7 118 yX7_lets ∈ TB := tb_i 871 (by decide +kernel) (by decide +kernel)
theorem wL_L_30 : Cond.methodLink RL 30 yX7_lay ∈ TB := tb_i 875 (by decide +kernel) (by decide +kernel)
theorem wL_L_35 : Cond.methodLink RL 35 yX7_plot ∈ TB := tb_i 879 (by decide +kernel) (by decide +kernel)
theorem wL_X7_130 : Cond.methodLink RX7 130 yX7_isPlot ∈ TB := tb_i 883 (by decide +kernel) (by decide +kernel)
theorem wL_L_39 : Cond.methodLink RL 39 yX7_hour ∈ TB := tb_i 887 (by decide +kernel) (by decide +kernel)
theorem wL_X7_133 : Cond.methodLink RX7 133 yX7_isHour ∈ TB := tb_i 891 (by decide +kernel) (by decide +kernel)
theorem wL_L_43 : Cond.methodLink RL 43 yX7_fits ∈ TB := tb_i 895 (by decide +kernel) (by decide +kernel)
theorem wL_L_47 : Cond.methodLink RL 47 yX7_pass ∈ TB := tb_i 899 (by decide +kernel) (by decide +kernel)
theorem wL_X7_139 : Cond.methodLink RX7 139 yX7_keeps ∈ TB := tb_i 903 (by decide +kernel) (by decide +kernel)
theorem wL_X7_142 : Cond.methodLink RX7 142 yX7_passes ∈ TB := tb_i 907 (by decide +kernel) (by decide +kernel)
theorem wL_X7_136 : Cond.methodLink RX7 136 yX7_takes ∈ TB := tb_i 911 (by decide +kernel) (by decide +kernel)
theorem wL_L_51 : Cond.methodLink RL 51 yX7_put ∈ TB := tb_i 915 (by decide +kernel) (by decide +kernel)
theorem wL_X7_145 : Cond.methodLink RX7 145 yX7_mayPut ∈ TB := tb_i 919 (by decide +kernel) (by decide +kernel)
theorem wL_X7_149 : Cond.methodLink RX7 149 yX7_isFrost ∈ TB := tb_i 923 (by decide +kernel) (by decide +kernel)
theorem wL_L_55 : Cond.methodLink RL 55 yX7_up ∈ TB := tb_i 927 (by decide +kernel) (by decide +kernel)
theorem wL_L_59 : Cond.methodLink RL 59 yX7_dig ∈ TB := tb_i 931 (by decide +kernel) (by decide +kernel)
theorem wL_L_63 : Cond.methodLink RL 63 yX7_undo ∈ TB := tb_i 935 (by decide +kernel) (by decide +kernel)
theorem wL_L_67 : Cond.methodLink RL 67 yX7_out ∈ TB := tb_i 939 (by decide +kernel) (by decide +kernel)
theorem wL_X7_153 : Cond.methodLink RX7 153 yX7_looks ∈ TB := tb_i 943 (by decide +kernel) (by decide +kernel)
theorem wL_L_71 : Cond.methodLink RL 71 yX7_behind ∈ TB := tb_i 947 (by decide +kernel) (by decide +kernel)
theorem wL_L_75 : Cond.methodLink RL 75 yX7_above ∈ TB := tb_i 951 (by decide +kernel) (by decide +kernel)
theorem wL_X7_156 : Cond.methodLink RX7 156 yX7_aboveOf ∈ TB := tb_i 955 (by decide +kernel) (by decide +kernel)
theorem wL_L_79 : Cond.methodLink RL 79 yX7_packs ∈ TB := tb_i 959 (by decide +kernel) (by decide +kernel)
theorem wL_X7_162 : Cond.methodLink RX7 162 yX7_packed ∈ TB := tb_i 963 (by decide +kernel) (by decide +kernel)
theorem wL_X7_159 : Cond.methodLink RX7 159 yX7_marks ∈ TB := tb_i 967 (by decide +kernel) (by decide +kernel)
theorem wL_L_83 : Cond.methodLink RL 83 yX7_stir ∈ TB := tb_i 971 (by decide +kernel) (by decide +kernel)
theorem wL_X7_171 : Cond.methodLink RX7 171 yX7_lyingAll ∈ TB := tb_i 975 (by decide +kernel) (by decide +kernel)
theorem wL_X7_174 : Cond.methodLink RX7 174 yX7_stirs ∈ TB := tb_i 979 (by decide +kernel) (by decide +kernel)
theorem wL_X7_165 : Cond.methodLink RX7 165 yX7_has ∈ TB := tb_i 983 (by decide +kernel) (by decide +kernel)
theorem wL_X7_168 : Cond.methodLink RX7 168 yX7_ones ∈ TB := tb_i 986 (by decide +kernel) (by decide +kernel)
theorem wL_L_87 : Cond.methodLink RL 87 yX7_cheap ∈ TB := tb_i 989 (by decide +kernel) (by decide +kernel)
theorem wL_X7_177 : Cond.methodLink RX7 177 yX7_worthOf ∈ TB := tb_i 993 (by decide +kernel) (by decide +kernel)
theorem wL_L_91 : Cond.methodLink RL 91 yX7_deeper ∈ TB := tb_i 997 (by decide +kernel) (by decide +kernel)
theorem wL_L_95 : Cond.methodLink RL 95 yX7_years ∈ TB := tb_i 1001 (by decide +kernel) (by decide +kernel)
theorem wL_L_100 : Cond.methodLink RL 100 yX7_seen ∈ TB := tb_i 1005 (by decide +kernel) (by decide +kernel)
theorem wL_L_104 : Cond.methodLink RL 104 yX7_forget ∈ TB := tb_i 1009 (by decide +kernel) (by decide +kernel)
theorem wL_L_108 : Cond.methodLink RL 108 yX7_plots ∈ TB := tb_i 1013 (by decide +kernel) (by decide +kernel)
theorem wL_X7_180 : Cond.methodLink RX7 180 yX7_isSo ∈ TB := tb_i 1017 (by decide +kernel) (by decide +kernel)
theorem wL_L_112 : Cond.methodLink RL 112 yX7_kinds ∈ TB := tb_i 1021 (by decide +kernel) (by decide +kernel)
theorem wL_L_117 : Cond.methodLink RL 117 yX7_likely ∈ TB := tb_i 1025 (by decide +kernel) (by decide +kernel)
theorem wL_L_121 : Cond.methodLink RL 121 yX7_decade ∈ TB := tb_i 1029 (by decide +kernel) (by decide +kernel)
theorem wL_X7_191 : Cond.methodLink RX7 191 yX7_turn ∈ TB := tb_i 1037 (by decide +kernel) (by decide +kernel)
theorem wL_L_125 : Cond.methodLink RL 125 yX7_keep ∈ TB := tb_i 1041 (by decide +kernel) (by decide +kernel)
theorem wL_L_129 : Cond.methodLink RL 129 yX7_back ∈ TB := tb_i 1045 (by decide +kernel) (by decide +kernel)
theorem wL_L_133 : Cond.methodLink RL 133 yX7_count ∈ TB := tb_i 1049 (by decide +kernel) (by decide +kernel)
theorem wC_J6_265 : Cond.constant RJ6 265 (1431655765) ∈ TB := tb_i 613 (by decide +kernel) (by decide +kernel)
theorem wC_J6_266 : Cond.constant RJ6 266 (858993459) ∈ TB := tb_i 614 (by decide +kernel) (by decide +kernel)
theorem wC_J6_267 : Cond.constant RJ6 267 (252645135) ∈ TB := tb_i 615 (by decide +kernel) (by decide +kernel)
theorem wC_X0_134 : Cond.constant RX0 134 (2147483647) ∈ TB := tb_i 624 (by decide +kernel) (by decide +kernel)
theorem wCL_X6_241 : Cond.constantLong RX6 241 (7919) ∈ TB := tb_i 701 (by decide +kernel) (by decide +kernel)
theorem wCL_X6_243 : Cond.constantLong RX6 243 (6151) ∈ TB := tb_i 702 (by decide +kernel) (by decide +kernel)
theorem wCL_X6_245 : Cond.constantLong RX6 245 (65521) ∈ TB := tb_i 703 (by decide +kernel) (by decide +kernel)
theorem wCL_X6_247 : Cond.constantLong RX6 247 (2) ∈ TB := tb_i 704 (by decide +kernel) (by decide +kernel)
theorem wCL_X7_183 : Cond.constantLong RX7 183 (7919) ∈ TB := tb_i 1033 (by decide +kernel) (by decide +kernel)
theorem wCL_X7_185 : Cond.constantLong RX7 185 (6151) ∈ TB := tb_i 1034 (by decide +kernel) (by decide +kernel)
theorem wCL_X7_187 : Cond.constantLong RX7 187 (65521) ∈ TB := tb_i 1035 (by decide +kernel) (by decide +kernel)
theorem wCL_X7_189 : Cond.constantLong RX7 189 (2) ∈ TB := tb_i 1036 (by decide +kernel) (by decide +kernel)
theorem wCN : True := trivial
end
section
def FU : Nat := 1000000000
section XM
variable {G : Gm} {p : Program} {l : Launch} {e : Env} {R : Room} {s : State} {m : MethodId} {args : Array Value} {below : List Frame} {meth : Method} {c : Code} {cc : ByteArray} {nL : Nat} {own : String} {ret : Option FieldType} {nm : String} {Q : State → Prop} {cells slots pc : Nat} {lv lv' : List (Nat × Value)} {st rest : List Value} {μ μ' : Mu}
theorem y_iret {mc ms : Nat} {x : Int32} {r : Int32 × Mu} (hret : ret = some .int) (hc : cells = mc) (hs : slots = ms) (hf : some (x, μ) = some r) (hd : decode cc pc = .ok (.ireturn, 1)) : Lt G p l e R s m args below meth c cc nL own ret nm (MQ below (Qm G (some (.int r.1)) r.2 mc) args s mc ms (fA G)) cells slots pc lv [.int x] μ := by
  cases hf
  exact x_iret hret rfl rfl hc hs hd
theorem y_zret {mc ms : Nat} {x : Int32} {r : Int32 × Mu} (hret : ret = some .boolean) (hx : x = 0 ∨ x = 1) (hc : cells = mc) (hs : slots = ms) (hf : some (x, μ) = some r) (hd : decode cc pc = .ok (.ireturn, 1)) : Lt G p l e R s m args below meth c cc nL own ret nm (MQ below (Qm G (some (.int r.1)) r.2 mc) args s mc ms (fA G)) cells slots pc lv [.int x] μ := by
  cases hf
  exact x_zret hret (by rcases hx with h | h <;> rw [h] <;> decide) rfl rfl hc hs hd
theorem y_cret {mc ms : Nat} {x : Int32} {r : Int32 × Mu} (hret : ret = some .char) (hx : vp_nar .char x = x) (hc : cells = mc) (hs : slots = ms) (hf : some (x, μ) = some r) (hd : decode cc pc = .ok (.ireturn, 1)) : Lt G p l e R s m args below meth c cc nL own ret nm (MQ below (Qm G (some (.int r.1)) r.2 mc) args s mc ms (fA G)) cells slots pc lv [.int x] μ := by
  cases hf
  refine x_zret hret ?_ rfl rfl hc hs hd
  have h : narrow .char (.int x) = .int (vp_nar .char x) := rfl
  rw [h, hx]
theorem y_vret {mc ms : Nat} {r : Mu} (hret : ret = none) (hc : cells = mc) (hs : slots = ms) (hf : some μ = some r) (hd : decode cc pc = .ok (.return_, 1)) : Lt G p l e R s m args below meth c cc nL own ret nm (MQ below (Qm G none r mc) args s mc ms (fA G)) cells slots pc lv [] μ := by
  cases hf
  exact x_vret hret rfl rfl hc hs hd
theorem y_aret {mc ms a : Nat} {C0 : String} {r : Option Nat × Mu} (hret : ret = some (.object C0)) (hc : cells = mc) (hs : slots = ms) (hf : some (some a, μ) = some r) (hd : decode cc pc = .ok (.areturn, 1)) : Lt G p l e R s m args below meth c cc nL own ret nm (MQ below (Qm G (some (va_rf (r.1.map (fun b => gB G + b)))) r.2 mc) args s mc ms (fA G)) cells slots pc lv [.ref (gB G + a)] μ := by
  cases hf
  exact x_aret hret (Or.inr ⟨_, rfl⟩) rfl rfl hc hs hd
theorem y_aretN {mc ms : Nat} {C0 : String} {r : Option Nat × Mu} (hret : ret = some (.object C0)) (hc : cells = mc) (hs : slots = ms) (hf : some (none, μ) = some r) (hd : decode cc pc = .ok (.areturn, 1)) : Lt G p l e R s m args below meth c cc nL own ret nm (MQ below (Qm G (some (va_rf (r.1.map (fun b => gB G + b)))) r.2 mc) args s mc ms (fA G)) cells slots pc lv [.null] μ := by
  cases hf
  exact x_aret hret (Or.inl rfl) rfl rfl hc hs hd
theorem x_callVi {i a ci : Nat} {y : MethodName} {bytes : ByteArray} {maxL' lev mc ms : Nat} {rt : Option FieldType} {v : Int32} (As : List Value) (hM : Mt G l y bytes maxL' rt lev mc ms (.ref (gB G + a) :: As) μ (some (.int v)) μ') (hy : YW y bytes maxL' rt As.length) (hin : Cond.instanceMethod y ∈ TB) (hse : Cond.selects y.cls y y ∈ TB) (hlk : Cond.methodLink own i y ∈ TB) (ho : isO ci a μ) (hci : ci < 8) (hcn : (kT ci).1 = y.cls) (hst : st = As.reverse ++ .ref (gB G + a) :: rest) (hrm : (rest.map fun v => v.category).sum ≤ 8) (hR : lev + 1 ≤ R.frames ∧ 8 + (maxL' + 11) + 40 * lev ≤ R.locals) (hf : cells + mc ≤ R.cells ∧ slots + ms ≤ R.slots) (hd : decode cc pc = .ok (.invokevirtual i, 3)) (kk : Lt G p l e R s m args below meth c cc nL own ret nm Q (cells + mc) (slots + ms) (pc + 3) lv (.int v :: rest) μ') : Lt G p l e R s m args below meth c cc nL own ret nm Q cells slots pc lv st μ := x_callV As hM hy hin hse hlk ho hci hcn hst hrm hR hf hd kk
theorem x_callVv {i a ci : Nat} {y : MethodName} {bytes : ByteArray} {maxL' lev mc ms : Nat} {rt : Option FieldType} (As : List Value) (hM : Mt G l y bytes maxL' rt lev mc ms (.ref (gB G + a) :: As) μ none μ') (hy : YW y bytes maxL' rt As.length) (hin : Cond.instanceMethod y ∈ TB) (hse : Cond.selects y.cls y y ∈ TB) (hlk : Cond.methodLink own i y ∈ TB) (ho : isO ci a μ) (hci : ci < 8) (hcn : (kT ci).1 = y.cls) (hst : st = As.reverse ++ .ref (gB G + a) :: rest) (hrm : (rest.map fun v => v.category).sum ≤ 8) (hR : lev + 1 ≤ R.frames ∧ 8 + (maxL' + 11) + 40 * lev ≤ R.locals) (hf : cells + mc ≤ R.cells ∧ slots + ms ≤ R.slots) (hd : decode cc pc = .ok (.invokevirtual i, 3)) (kk : Lt G p l e R s m args below meth c cc nL own ret nm Q (cells + mc) (slots + ms) (pc + 3) lv rest μ') : Lt G p l e R s m args below meth c cc nL own ret nm Q cells slots pc lv st μ := x_callV As hM hy hin hse hlk ho hci hcn hst hrm hR hf hd kk
theorem x_callVq {i a ci : Nat} {y : MethodName} {bytes : ByteArray} {maxL' lev mc ms : Nat} {rt : Option FieldType} {v : Value} (As : List Value) (hM : Mt G l y bytes maxL' rt lev mc ms (.ref (gB G + a) :: As) μ (some v) μ') (hy : YW y bytes maxL' rt As.length) (hin : Cond.instanceMethod y ∈ TB) (hse : Cond.selects y.cls y y ∈ TB) (hlk : Cond.methodLink own i y ∈ TB) (ho : isO ci a μ) (hci : ci < 8) (hcn : (kT ci).1 = y.cls) (hst : st = As.reverse ++ .ref (gB G + a) :: rest) (hrm : (rest.map fun v => v.category).sum ≤ 8) (hR : lev + 1 ≤ R.frames ∧ 8 + (maxL' + 11) + 40 * lev ≤ R.locals) (hf : cells + mc ≤ R.cells ∧ slots + ms ≤ R.slots) (hd : decode cc pc = .ok (.invokevirtual i, 3)) (kk : Lt G p l e R s m args below meth c cc nL own ret nm Q (cells + mc) (slots + ms) (pc + 3) lv (v :: rest) μ') : Lt G p l e R s m args below meth c cc nL own ret nm Q cells slots pc lv st μ := x_callV As hM hy hin hse hlk ho hci hcn hst hrm hR hf hd kk
theorem x_callSi {i : Nat} {y : MethodName} {bytes : ByteArray} {maxL' lev mc ms : Nat} {rt : Option FieldType} {v : Int32} (As : List Value) (hM : Mt G l y bytes maxL' rt lev mc ms As μ (some (.int v)) μ') (hy : YW y bytes maxL' rt As.length) (hsta : Cond.static y ∈ TB) (hlk : Cond.methodLink own i y ∈ TB) (hst : st = As.reverse ++ rest) (hrm : (rest.map fun v => v.category).sum ≤ 8) (hR : lev + 1 ≤ R.frames ∧ 8 + (maxL' + 11) + 40 * lev ≤ R.locals) (hf : cells + mc ≤ R.cells ∧ slots + ms ≤ R.slots) (hd : decode cc pc = .ok (.invokestatic i, 3)) (kk : Lt G p l e R s m args below meth c cc nL own ret nm Q (cells + mc) (slots + ms) (pc + 3) lv (.int v :: rest) μ') : Lt G p l e R s m args below meth c cc nL own ret nm Q cells slots pc lv st μ := x_callS As hM hy hsta hlk hst hrm hR hf hd kk
theorem x_callSv {i : Nat} {y : MethodName} {bytes : ByteArray} {maxL' lev mc ms : Nat} {rt : Option FieldType} (As : List Value) (hM : Mt G l y bytes maxL' rt lev mc ms As μ none μ') (hy : YW y bytes maxL' rt As.length) (hsta : Cond.static y ∈ TB) (hlk : Cond.methodLink own i y ∈ TB) (hst : st = As.reverse ++ rest) (hrm : (rest.map fun v => v.category).sum ≤ 8) (hR : lev + 1 ≤ R.frames ∧ 8 + (maxL' + 11) + 40 * lev ≤ R.locals) (hf : cells + mc ≤ R.cells ∧ slots + ms ≤ R.slots) (hd : decode cc pc = .ok (.invokestatic i, 3)) (kk : Lt G p l e R s m args below meth c cc nL own ret nm Q (cells + mc) (slots + ms) (pc + 3) lv rest μ') : Lt G p l e R s m args below meth c cc nL own ret nm Q cells slots pc lv st μ := x_callS As hM hy hsta hlk hst hrm hR hf hd kk
theorem x_callSq {i : Nat} {y : MethodName} {bytes : ByteArray} {maxL' lev mc ms : Nat} {rt : Option FieldType} {v : Value} (As : List Value) (hM : Mt G l y bytes maxL' rt lev mc ms As μ (some v) μ') (hy : YW y bytes maxL' rt As.length) (hsta : Cond.static y ∈ TB) (hlk : Cond.methodLink own i y ∈ TB) (hst : st = As.reverse ++ rest) (hrm : (rest.map fun v => v.category).sum ≤ 8) (hR : lev + 1 ≤ R.frames ∧ 8 + (maxL' + 11) + 40 * lev ≤ R.locals) (hf : cells + mc ≤ R.cells ∧ slots + ms ≤ R.slots) (hd : decode cc pc = .ok (.invokestatic i, 3)) (kk : Lt G p l e R s m args below meth c cc nL own ret nm Q (cells + mc) (slots + ms) (pc + 3) lv (v :: rest) μ') : Lt G p l e R s m args below meth c cc nL own ret nm Q cells slots pc lv st μ := x_callS As hM hy hsta hlk hst hrm hR hf hd kk
theorem x_callNi {bytes : ByteArray} {maxL' lev mc ms : Nat} {rt : Option FieldType} {v : Int32} (As : List Value) (hown : own = "HourGreen$Green") (hM : Mt G l yX6_isWithin bytes maxL' rt lev mc ms As μ (some (.int v)) μ') (hy : YW yX6_isWithin bytes maxL' rt As.length) (hsta : Cond.static yX6_isWithin ∈ TB) (hst : st = As.reverse ++ rest) (hrm : (rest.map fun v => v.category).sum ≤ 8) (hR : lev + 1 ≤ R.frames ∧ 8 + (maxL' + 11) + 40 * lev ≤ R.locals) (hf : cells + mc ≤ R.cells ∧ slots + ms ≤ R.slots) (hd : decode cc pc = .ok (.invokestatic 47, 3)) (kk : Lt G p l e R s m args below meth c cc nL own ret nm Q (cells + mc) (slots + ms) (pc + 3) lv (.int v :: rest) μ') : Lt G p l e R s m args below meth c cc nL own ret nm Q cells slots pc lv st μ := x_callN As hown hM hy hsta hst hrm hR hf hd kk
end XM
end
section
section XC
variable {G : Gm} {p : Program} {l : Launch} {e : Env} {R : Room} {s : State} {m : MethodId} {args : Array Value} {below : List Frame} {meth : Method} {c : Code} {cc : ByteArray} {nL : Nat} {own : String} {ret : Option FieldType} {nm : String} {Q : State → Prop} {cells slots pc : Nat} {lv lv' : List (Nat × Value)} {st rest : List Value} {μ μ' : Mu}
theorem x_z (k : s.heap.size + cells = gB G + μ.1 → Lt G p l e R s m args below meth c cc nL own ret nm Q cells slots pc lv st μ) : Lt G p l e R s m args below meth c cc nL own ret nm Q cells slots pc lv st μ := fun C z => k z C z
theorem x_wide {ms : Nat} (h : slots ≤ ms) (k : Lt G p l e R s m args below meth c cc nL own ret nm Q cells ms pc lv st μ) : Lt G p l e R s m args below meth c cc nL own ret nm Q cells slots pc lv st μ := fun C z H L ls h1 h2 h3 => W.widen (Nat.le_refl _) h (k C z H L ls h1 h2 h3)
theorem wO_i : Cond.instanceMethod objectInit ∈ TB := tb_i 62 (by decide +kernel) (by decide +kernel)
theorem wO_c : Cond.code objectInit ⟨#[0xb1]⟩ 1 none ∈ TB := tb_i 63 (by decide +kernel) (by decide +kernel)
theorem x_objInit {i x : Nat} (hlk : Cond.methodLink own i objectInit ∈ TB) (hfr : 1 ≤ R.frames) (hlo : (st.map fun v => v.category).sum + 12 ≤ R.locals) (hd : decode cc pc = .ok (.invokespecial i, 3)) (k : Lt G p l e R s m args below meth c cc nL own ret nm Q cells slots (pc + 3) lv st μ) : Lt G p l e R s m args below meth c cc nL own ret nm Q cells slots pc lv (.ref x :: st) μ := by
  intro C z H L ls h1 h2 h3
  have ht := C.2.2.2.2.1
  refine W.objInit C.1 C.2.1 C.2.2.2.1 (ht _ hlk) (ht _ wO_i) (ht _ wO_c) rfl (by rw [C.2.2.1]; exact h3.1) rfl hd hfr ?_ (k C z H L ls h1 h2 h3)
  show 2 * 0 + _ + 12 ≤ _
  omega
theorem cell_sn {c' : Nat} (h : c' ≠ μ.1) : cellv G (sn μ) c' = cellv G μ c' := by
  simp only [cellv, fs, fv, sn, if_neg h]
/-- the memory behind a new cell -/
theorem Hp_new {H H1 : Heap} (h1 : Hp G μ H) (hH : H.size = gB G + μ.1) (o1 : ∀ q, q < H.size → H1[q]? = H[q]?) (hn : va_at G.1 vwCl (gB G + μ.1, cellv G (sn μ) μ.1) H1) : Hp G (sn μ) H1 := by
  intro k q hk
  obtain ⟨hl, rfl⟩ := ws_of hk
  by_cases hq : k = μ.1
  · subst hq
    exact hn
  · have hl2 : k < μ.1 := by
      have : k < μ.1 + 1 := hl
      omega
    rw [cell_sn hq]
    exact (h1 k _ (ws_at hl2)).kept (o1 _ (by rw [hH]; omega))
theorem S_new {H H1 : Heap} {locs : List Loc} (h2 : va_S (fA G) s.heap H locs) (z1 : H.size ≤ H1.size) (o1 : ∀ q, q < H.size → H1[q]? = H[q]?) : va_S (fA G) s.heap H1 locs :=
  ⟨Nat.le_trans h2.1 z1, fun q a b => (o1 q (Nat.lt_of_lt_of_le a h2.1)).trans (h2.2.1 q a b), h2.2.2⟩
theorem kk0 : ∀ j, j < (kT 0).2.2 → (kF 0 j = .int ∨ kF 0 j = .long) ∨ isRf (kF 0 j) = true := by decide +kernel
theorem kk1 : ∀ j, j < (kT 1).2.2 → (kF 1 j = .int ∨ kF 1 j = .long) ∨ isRf (kF 1 j) = true := by decide +kernel
theorem kk2 : ∀ j, j < (kT 2).2.2 → (kF 2 j = .int ∨ kF 2 j = .long) ∨ isRf (kF 2 j) = true := by decide +kernel
theorem kk3 : ∀ j, j < (kT 3).2.2 → (kF 3 j = .int ∨ kF 3 j = .long) ∨ isRf (kF 3 j) = true := by decide +kernel
theorem kk4 : ∀ j, j < (kT 4).2.2 → (kF 4 j = .int ∨ kF 4 j = .long) ∨ isRf (kF 4 j) = true := by decide +kernel
theorem kk5 : ∀ j, j < (kT 5).2.2 → (kF 5 j = .int ∨ kF 5 j = .long) ∨ isRf (kF 5 j) = true := by decide +kernel
theorem kk6 : ∀ j, j < (kT 6).2.2 → (kF 6 j = .int ∨ kF 6 j = .long) ∨ isRf (kF 6 j) = true := by decide +kernel
theorem kk7 : ∀ j, j < (kT 7).2.2 → (kF 7 j = .int ∨ kF 7 j = .long) ∨ isRf (kF 7 j) = true := by decide +kernel
theorem nw_of {G : Gm} {μ : Mu} {j : Nat} {ty : FieldType} (h : (ty = .int ∨ ty = .long) ∨ isRf ty = true) : defaultValue ty = fv (gB G) (sn μ) μ.1 j ty := by
  rcases h with (rfl | rfl) | h
  · simp [fv, sn, defaultValue]
  · simp [fv, sn, defaultValue]
  · rw [fv_rf h]
    cases ty <;> first | (simp [isRf] at h; done) | simp [sn, va_rf, defaultValue]
theorem nw0 {G : Gm} {μ : Mu} : ∀ j, j < (kT 0).2.2 → defaultValue (kF 0 j) = fv (gB G) (sn μ) μ.1 j (kF 0 j) := by
  intro j hj
  have hk : (kF 0 j = .int ∨ kF 0 j = .long) ∨ isRf (kF 0 j) = true := kk0 j hj
  exact nw_of hk
theorem nw1 {G : Gm} {μ : Mu} : ∀ j, j < (kT 1).2.2 → defaultValue (kF 1 j) = fv (gB G) (sn μ) μ.1 j (kF 1 j) := by
  intro j hj
  have hk : (kF 1 j = .int ∨ kF 1 j = .long) ∨ isRf (kF 1 j) = true := kk1 j hj
  exact nw_of hk
theorem nw2 {G : Gm} {μ : Mu} : ∀ j, j < (kT 2).2.2 → defaultValue (kF 2 j) = fv (gB G) (sn μ) μ.1 j (kF 2 j) := by
  intro j hj
  have hk : (kF 2 j = .int ∨ kF 2 j = .long) ∨ isRf (kF 2 j) = true := kk2 j hj
  exact nw_of hk
theorem nw3 {G : Gm} {μ : Mu} : ∀ j, j < (kT 3).2.2 → defaultValue (kF 3 j) = fv (gB G) (sn μ) μ.1 j (kF 3 j) := by
  intro j hj
  have hk : (kF 3 j = .int ∨ kF 3 j = .long) ∨ isRf (kF 3 j) = true := kk3 j hj
  exact nw_of hk
theorem nw4 {G : Gm} {μ : Mu} : ∀ j, j < (kT 4).2.2 → defaultValue (kF 4 j) = fv (gB G) (sn μ) μ.1 j (kF 4 j) := by
  intro j hj
  have hk : (kF 4 j = .int ∨ kF 4 j = .long) ∨ isRf (kF 4 j) = true := kk4 j hj
  exact nw_of hk
theorem nw5 {G : Gm} {μ : Mu} : ∀ j, j < (kT 5).2.2 → defaultValue (kF 5 j) = fv (gB G) (sn μ) μ.1 j (kF 5 j) := by
  intro j hj
  have hk : (kF 5 j = .int ∨ kF 5 j = .long) ∨ isRf (kF 5 j) = true := kk5 j hj
  exact nw_of hk
theorem nw6 {G : Gm} {μ : Mu} : ∀ j, j < (kT 6).2.2 → defaultValue (kF 6 j) = fv (gB G) (sn μ) μ.1 j (kF 6 j) := by
  intro j hj
  have hk : (kF 6 j = .int ∨ kF 6 j = .long) ∨ isRf (kF 6 j) = true := kk6 j hj
  exact nw_of hk
theorem nw7 {G : Gm} {μ : Mu} : ∀ j, j < (kT 7).2.2 → defaultValue (kF 7 j) = fv (gB G) (sn μ) μ.1 j (kF 7 j) := by
  intro j hj
  have hk : (kF 7 j = .int ∨ kF 7 j = .long) ∨ isRf (kF 7 j) = true := kk7 j hj
  exact nw_of hk
theorem nwA {G : Gm} {μ : Mu} : ∀ {ci : Nat}, ci < 8 → ∀ j, j < (kT ci).2.2 → defaultValue (kF ci j) = fv (gB G) (sn μ) μ.1 j (kF ci j)
  | 0, _ => nw0
  | 1, _ => nw1
  | 2, _ => nw2
  | 3, _ => nw3
  | 4, _ => nw4
  | 5, _ => nw5
  | 6, _ => nw6
  | 7, _ => nw7
theorem x_new {i ci : Nat} {q : Nat × Mu} (hcl : Cond.classLink own i (kT ci).1 ∈ TB) (hin : Cond.instantiable (kT ci).1 (kT ci).2.2 ∈ TB) (hini : Cond.initialized (kT ci).1 ∈ TB) (hc : ci < 8) (hg : nO ci μ = some q) (hf : cells + 1 ≤ R.cells ∧ slots + (kT ci).2.2 ≤ R.slots) (hd : decode cc pc = .ok (.new i, 3))
    (kk : Lt G p l e R s m args below meth c cc nL own ret nm Q (cells + 1) (slots + (kT ci).2.2) (pc + 3) lv (.ref (gB G + q.1) :: st) q.2) : Lt G p l e R s m args below meth c cc nL own ret nm Q cells slots pc lv st μ := by
  intro C z H L ls h1 h2 h3
  refine W_sz (fun hsz => ?_)
  have hH := Hp_sz C.2.2.2.2.2.2.2.1 z h1 h2 hsz
  have ht := C.2.2.2.2.1
  have hs := grd_p hg
  have hq := Option.some.inj (grd_v hg)
  subst hq
  have hKn := C.2.2.2.2.2.1.1.1 ci _ (clok hc).1
  refine W.newcK C.1 C.2.1 C.2.2.2.1 (ht _ hcl) (ht _ hin) (ht _ hini) rfl hd hf.1 hf.2 hKn.2.1 rfl fun H1 kC hkC e1 z1 o1 => ?_
  rw [hH] at e1
  have hW := kk C (by show _ = gB G + (μ.1 + 1); omega) H1 L ls (Hp_new h1 hH o1 ?_) (S_new h2 (by omega) o1) h3
  · rw [hH]
    exact hW
  · rw [cell_o hs hc]
    refine ⟨_, (clok hc).1, (u_born (kF ci) ht (clok hc).2.1 hKn hkC e1 (clok hc).2.2.1).to ?_⟩
    intro j hj
    have hv : vp_V (fs (gB G) (sn μ) μ.1 ci) j = fv (gB G) (sn μ) μ.1 j (kF ci j) := by
      simp [vp_V, List.getD, fs_get hj]
    rw [hv]
    have hd0 := (clok hc).2.2.1 j hj
    exact nwA hc j hj
theorem x_newa8 {n : Int32} {q : Nat × Mu} (har : Cond.arrayClass (newarray.typeOf .int) ∈ TB) (hg : nA 8 n μ = some q) (hf : cells + 1 ≤ R.cells ∧ slots + (sh μ.1).2 ≤ R.slots) (hd : decode cc pc = .ok (.newarray .int, 2))
    (kk : Lt G p l e R s m args below meth c cc nL own ret nm Q (cells + 1) (slots + (sh μ.1).2) (pc + 2) lv (.ref (gB G + q.1) :: st) q.2) : Lt G p l e R s m args below meth c cc nL own ret nm Q cells slots pc lv (.int n :: st) μ := by
  intro C z H L ls h1 h2 h3
  refine W_sz (fun hsz => ?_)
  have hH := Hp_sz C.2.2.2.2.2.2.2.1 z h1 h2 hsz
  have ht := C.2.2.2.2.1
  obtain ⟨hs, hn, hN, h1000⟩ := grd_p hg
  have hq := Option.some.inj (grd_v hg)
  subst hq
  refine va_newaK (atype := .int) C.1 C.2.1 (ht _ har) rfl hd rfl hn hN (by simp only [newarray.typeOf, componentBytes]; omega) hf.1 hf.2 hH fun H1 cA e1 z1 o1 hAr hNm => ?_
  have hcA : cA = G.2.1 := Option.some.inj (hNm.symm.trans (C.2.2.2.2.2.1.1.2 0 _ rfl).2)
  subst hcA
  refine kk C (by show _ = gB G + (μ.1 + 1); omega) H1 L ls (Hp_new h1 hH (by rw [hH]; exact o1) ?_) (S_new h2 (by omega) (by rw [hH]; exact o1)) h3
  rw [cell_8 hs]
  show H1[gB G + μ.1]? = some (vp_cell _ _)
  rw [e1, vp_cell_i]
  simp [sn, newarray.typeOf, defaultValue]
theorem x_newa9 {n : Int32} {q : Nat × Mu} (har : Cond.arrayClass (newarray.typeOf .char) ∈ TB) (hg : nA 9 n μ = some q) (hf : cells + 1 ≤ R.cells ∧ slots + (sh μ.1).2 ≤ R.slots) (hd : decode cc pc = .ok (.newarray .char, 2))
    (kk : Lt G p l e R s m args below meth c cc nL own ret nm Q (cells + 1) (slots + (sh μ.1).2) (pc + 2) lv (.ref (gB G + q.1) :: st) q.2) : Lt G p l e R s m args below meth c cc nL own ret nm Q cells slots pc lv (.int n :: st) μ := by
  intro C z H L ls h1 h2 h3
  refine W_sz (fun hsz => ?_)
  have hH := Hp_sz C.2.2.2.2.2.2.2.1 z h1 h2 hsz
  have ht := C.2.2.2.2.1
  obtain ⟨hs, hn, hN, h1000⟩ := grd_p hg
  have hq := Option.some.inj (grd_v hg)
  subst hq
  refine va_newaK (atype := .char) C.1 C.2.1 (ht _ har) rfl hd rfl hn hN (by simp only [newarray.typeOf, componentBytes]; omega) hf.1 hf.2 hH fun H1 cA e1 z1 o1 hAr hNm => ?_
  have hcA : cA = G.2.2.1 := Option.some.inj (hNm.symm.trans (C.2.2.2.2.2.1.1.2 1 _ rfl).2)
  subst hcA
  refine kk C (by show _ = gB G + (μ.1 + 1); omega) H1 L ls (Hp_new h1 hH (by rw [hH]; exact o1) ?_) (S_new h2 (by omega) (by rw [hH]; exact o1)) h3
  rw [cell_9 hs]
  show H1[gB G + μ.1]? = some (vp_cell _ _)
  rw [e1, vp_cell_i]
  simp [sn, newarray.typeOf, defaultValue]
theorem x_newa10 {n : Int32} {q : Nat × Mu} (har : Cond.arrayClass (newarray.typeOf .boolean) ∈ TB) (hg : nA 10 n μ = some q) (hf : cells + 1 ≤ R.cells ∧ slots + (sh μ.1).2 ≤ R.slots) (hd : decode cc pc = .ok (.newarray .boolean, 2))
    (kk : Lt G p l e R s m args below meth c cc nL own ret nm Q (cells + 1) (slots + (sh μ.1).2) (pc + 2) lv (.ref (gB G + q.1) :: st) q.2) : Lt G p l e R s m args below meth c cc nL own ret nm Q cells slots pc lv (.int n :: st) μ := by
  intro C z H L ls h1 h2 h3
  refine W_sz (fun hsz => ?_)
  have hH := Hp_sz C.2.2.2.2.2.2.2.1 z h1 h2 hsz
  have ht := C.2.2.2.2.1
  obtain ⟨hs, hn, hN, h1000⟩ := grd_p hg
  have hq := Option.some.inj (grd_v hg)
  subst hq
  refine va_newaK (atype := .boolean) C.1 C.2.1 (ht _ har) rfl hd rfl hn hN (by simp only [newarray.typeOf, componentBytes]; omega) hf.1 hf.2 hH fun H1 cA e1 z1 o1 hAr hNm => ?_
  have hcA : cA = G.2.2.2.1 := Option.some.inj (hNm.symm.trans (C.2.2.2.2.2.1.1.2 2 _ rfl).2)
  subst hcA
  refine kk C (by show _ = gB G + (μ.1 + 1); omega) H1 L ls (Hp_new h1 hH (by rw [hH]; exact o1) ?_) (S_new h2 (by omega) (by rw [hH]; exact o1)) h3
  rw [cell_10 hs]
  show H1[gB G + μ.1]? = some (vp_cell _ _)
  rw [e1, vp_cell_i]
  simp [sn, newarray.typeOf, defaultValue]
theorem x_newq {i : Nat} {n : Int32} {q : Nat × Mu} (hcl : Cond.classLink own i RX0 ∈ TB) (hg : nA 11 n μ = some q) (hf : cells + 1 ≤ R.cells ∧ slots + (sh μ.1).2 ≤ R.slots) (hd : decode cc pc = .ok (.anewarray i, 3))
    (kk : Lt G p l e R s m args below meth c cc nL own ret nm Q (cells + 1) (slots + (sh μ.1).2) (pc + 3) lv (.ref (gB G + q.1) :: st) q.2) : Lt G p l e R s m args below meth c cc nL own ret nm Q cells slots pc lv (.int n :: st) μ := by
  intro C z H L ls h1 h2 h3
  refine W_sz (fun hsz => ?_)
  have hH := Hp_sz C.2.2.2.2.2.2.2.1 z h1 h2 hsz
  have ht := C.2.2.2.2.1
  obtain ⟨hs, hn, hN, h1000⟩ := grd_p hg
  have hq := Option.some.inj (grd_v hg)
  subst hq
  refine W.anew C.1 C.2.1 C.2.2.2.1 (ht _ hcl) (va_AO.use C.2.2.2.2.2.1.2.2) rfl hd rfl hn (by omega) hf.1 (by rw [hN]; exact hf.2) fun cA kA comp f1 f2 f3 f4 => ?_
  obtain ⟨kA', comp', g1, g2, g3, g4⟩ := (C.2.2.2.2.2.1.1.2 3 _ rfl).2
  have hcA : cA = G.2.2.2.2.1 := Option.some.inj (f1.symm.trans g4)
  subst hcA
  have o1 : ∀ q : Nat, q < H.size → (H.push ({ cls := G.2.2.2.2.1, slots := Array.replicate n.toNatClampNeg .null, vm := .none } : Cell))[q]? = H[q]? := fun q hq => by rw [Array.getElem?_push, if_neg (Nat.ne_of_lt hq)]
  have hW := kk C (by show _ = gB G + (μ.1 + 1); omega) _ L ls (Hp_new h1 hH o1 ?_) (S_new h2 (by simp) o1) h3
  · rw [hN] at hW
    rw [hN, hH]
    exact hW
  · rw [cell_11 hs]
    show (H.push _)[gB G + μ.1]? = some (vp_cell _ _)
    rw [← hH, Array.getElem?_push_size, arrV_new, vp_cell_q, hN]
    simp [sn, va_rf]
end XC
end
