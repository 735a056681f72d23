-- ===== PART A: goes FIRST, ahead of the names: the tables' words, and 'selects' of the private methods out of them =====
/-- a private method of a class that the tables say can be made, by its rows of tables_1 -/
def lw_okq (q : MethodName × Nat) : Prop := (q.1.cls ≠ "java/lang/invoke/MethodHandle" ∧ q.1.cls ≠ "java/lang/invoke/VarHandle") ∧ Cond.instantiable q.1.cls q.2 ∈ tables_1 ∧ Cond.privateMethod q.1 ∈ tables_1 ∧ Cond.instanceMethod q.1 ∈ tables_1
theorem lw_p0 : lw_okq (⟨"BranchTypes", "bad", "()I"⟩, 15) := ⟨⟨by decide +kernel, by decide +kernel⟩, List.mem_of_getElem? (i := 21) (by decide +kernel), List.mem_of_getElem? (i := 459) (by decide +kernel), List.mem_of_getElem? (i := 460) (by decide +kernel)⟩
theorem lw_p1 : lw_okq (⟨"BranchTypes", "full", "()I"⟩, 15) := ⟨⟨by decide +kernel, by decide +kernel⟩, List.mem_of_getElem? (i := 21) (by decide +kernel), List.mem_of_getElem? (i := 477) (by decide +kernel), List.mem_of_getElem? (i := 478) (by decide +kernel)⟩
theorem lw_p2 : lw_okq (⟨"BranchTypes", "no", "()I"⟩, 15) := ⟨⟨by decide +kernel, by decide +kernel⟩, List.mem_of_getElem? (i := 21) (by decide +kernel), List.mem_of_getElem? (i := 511) (by decide +kernel), List.mem_of_getElem? (i := 512) (by decide +kernel)⟩
theorem lw_p3 : lw_okq (⟨"BranchTypes", "areTypes", "(II)Z"⟩, 15) := ⟨⟨by decide +kernel, by decide +kernel⟩, List.mem_of_getElem? (i := 21) (by decide +kernel), List.mem_of_getElem? (i := 527) (by decide +kernel), List.mem_of_getElem? (i := 528) (by decide +kernel)⟩
theorem lw_p4 : lw_okq (⟨"BranchTypes$Unifier", "push", "(II)V"⟩, 8) := ⟨⟨by decide +kernel, by decide +kernel⟩, List.mem_of_getElem? (i := 141) (by decide +kernel), List.mem_of_getElem? (i := 548) (by decide +kernel), List.mem_of_getElem? (i := 549) (by decide +kernel)⟩
theorem lw_p5 : lw_okq (⟨"BranchTypes$Unifier", "settle", "()Z"⟩, 8) := ⟨⟨by decide +kernel, by decide +kernel⟩, List.mem_of_getElem? (i := 141) (by decide +kernel), List.mem_of_getElem? (i := 552) (by decide +kernel), List.mem_of_getElem? (i := 553) (by decide +kernel)⟩
theorem lw_p6 : lw_okq (⟨"BranchTypes$Unifier", "isFree", "(I)Z"⟩, 8) := ⟨⟨by decide +kernel, by decide +kernel⟩, List.mem_of_getElem? (i := 141) (by decide +kernel), List.mem_of_getElem? (i := 558) (by decide +kernel), List.mem_of_getElem? (i := 559) (by decide +kernel)⟩
theorem lw_p7 : lw_okq (⟨"BranchTypes$Unifier", "pushTwins", "()Z"⟩, 8) := ⟨⟨by decide +kernel, by decide +kernel⟩, List.mem_of_getElem? (i := 141) (by decide +kernel), List.mem_of_getElem? (i := 563) (by decide +kernel), List.mem_of_getElem? (i := 564) (by decide +kernel)⟩
theorem lw_p8 : lw_okq (⟨"BranchTypes$Unifier", "twinIn", "(II)I"⟩, 8) := ⟨⟨by decide +kernel, by decide +kernel⟩, List.mem_of_getElem? (i := 141) (by decide +kernel), List.mem_of_getElem? (i := 572) (by decide +kernel), List.mem_of_getElem? (i := 573) (by decide +kernel)⟩
theorem lw_p9 : lw_okq (⟨"BranchTypes$Walk", "sizeOfArgument", "(I)I"⟩, 7) := ⟨⟨by decide +kernel, by decide +kernel⟩, List.mem_of_getElem? (i := 113) (by decide +kernel), List.mem_of_getElem? (i := 617) (by decide +kernel), List.mem_of_getElem? (i := 618) (by decide +kernel)⟩
theorem lw_p10 : lw_okq (⟨"BranchTypes", "prepareConstructor", "(Ljava/lang/String;)V"⟩, 15) := ⟨⟨by decide +kernel, by decide +kernel⟩, List.mem_of_getElem? (i := 21) (by decide +kernel), List.mem_of_getElem? (i := 698) (by decide +kernel), List.mem_of_getElem? (i := 699) (by decide +kernel)⟩
theorem lw_p11 : lw_okq (⟨"BranchTypes", "declareConstructor", "(LBranchTypes$Code;I)Z"⟩, 15) := ⟨⟨by decide +kernel, by decide +kernel⟩, List.mem_of_getElem? (i := 21) (by decide +kernel), List.mem_of_getElem? (i := 762) (by decide +kernel), List.mem_of_getElem? (i := 763) (by decide +kernel)⟩
theorem lw_p12 : lw_okq (⟨"BranchTypes$Reader", "readType", "(LBranchTypes$Code;II)I"⟩, 3) := ⟨⟨by decide +kernel, by decide +kernel⟩, List.mem_of_getElem? (i := 295) (by decide +kernel), List.mem_of_getElem? (i := 779) (by decide +kernel), List.mem_of_getElem? (i := 780) (by decide +kernel)⟩
theorem lw_p13 : lw_okq (⟨"BranchTypes$Reader", "stands", "(LBranchTypes$Code;III)Z"⟩, 3) := ⟨⟨by decide +kernel, by decide +kernel⟩, List.mem_of_getElem? (i := 295) (by decide +kernel), List.mem_of_getElem? (i := 791) (by decide +kernel), List.mem_of_getElem? (i := 792) (by decide +kernel)⟩
theorem lw_p14 : lw_okq (⟨"BranchTypes", "prepareFunction", "(Ljava/lang/String;Ljava/lang/String;)V"⟩, 15) := ⟨⟨by decide +kernel, by decide +kernel⟩, List.mem_of_getElem? (i := 21) (by decide +kernel), List.mem_of_getElem? (i := 813) (by decide +kernel), List.mem_of_getElem? (i := 814) (by decide +kernel)⟩
theorem lw_p15 : lw_okq (⟨"BranchTypes", "declareFunction", "(LBranchTypes$Code;)Z"⟩, 15) := ⟨⟨by decide +kernel, by decide +kernel⟩, List.mem_of_getElem? (i := 21) (by decide +kernel), List.mem_of_getElem? (i := 817) (by decide +kernel), List.mem_of_getElem? (i := 818) (by decide +kernel)⟩
def lw_privs_1 : List (MethodName × Nat) := [(⟨"BranchTypes", "bad", "()I"⟩, 15), (⟨"BranchTypes", "full", "()I"⟩, 15), (⟨"BranchTypes", "no", "()I"⟩, 15), (⟨"BranchTypes", "areTypes", "(II)Z"⟩, 15), (⟨"BranchTypes$Unifier", "push", "(II)V"⟩, 8), (⟨"BranchTypes$Unifier", "settle", "()Z"⟩, 8), (⟨"BranchTypes$Unifier", "isFree", "(I)Z"⟩, 8), (⟨"BranchTypes$Unifier", "pushTwins", "()Z"⟩, 8), (⟨"BranchTypes$Unifier", "twinIn", "(II)I"⟩, 8), (⟨"BranchTypes$Walk", "sizeOfArgument", "(I)I"⟩, 7), (⟨"BranchTypes", "prepareConstructor", "(Ljava/lang/String;)V"⟩, 15), (⟨"BranchTypes", "declareConstructor", "(LBranchTypes$Code;I)Z"⟩, 15), (⟨"BranchTypes$Reader", "readType", "(LBranchTypes$Code;II)I"⟩, 3), (⟨"BranchTypes$Reader", "stands", "(LBranchTypes$Code;III)Z"⟩, 3), (⟨"BranchTypes", "prepareFunction", "(Ljava/lang/String;Ljava/lang/String;)V"⟩, 15), (⟨"BranchTypes", "declareFunction", "(LBranchTypes$Code;)Z"⟩, 15)]
theorem lw_r1 : ∀ q ∈ lw_privs_1, lw_okq q := List.forall_mem_cons.mpr ⟨lw_p0, List.forall_mem_cons.mpr ⟨lw_p1, List.forall_mem_cons.mpr ⟨lw_p2, List.forall_mem_cons.mpr ⟨lw_p3, List.forall_mem_cons.mpr ⟨lw_p4, List.forall_mem_cons.mpr ⟨lw_p5, List.forall_mem_cons.mpr ⟨lw_p6, List.forall_mem_cons.mpr ⟨lw_p7, List.forall_mem_cons.mpr ⟨lw_p8, List.forall_mem_cons.mpr ⟨lw_p9, List.forall_mem_cons.mpr ⟨lw_p10, List.forall_mem_cons.mpr ⟨lw_p11, List.forall_mem_cons.mpr ⟨lw_p12, List.forall_mem_cons.mpr ⟨lw_p13, List.forall_mem_cons.mpr ⟨lw_p14, List.forall_mem_cons.mpr ⟨lw_p15, fun _ h => absurd h List.not_mem_nil⟩⟩⟩⟩⟩⟩⟩⟩⟩⟩⟩⟩⟩⟩⟩⟩
theorem lw_p16 : lw_okq (⟨"BranchTypes$Reader", "read", "(II)I"⟩, 3) := ⟨⟨by decide +kernel, by decide +kernel⟩, List.mem_of_getElem? (i := 295) (by decide +kernel), List.mem_of_getElem? (i := 837) (by decide +kernel), List.mem_of_getElem? (i := 838) (by decide +kernel)⟩
theorem lw_p17 : lw_okq (⟨"BranchTypes$Reader", "readMatch", "(II)I"⟩, 3) := ⟨⟨by decide +kernel, by decide +kernel⟩, List.mem_of_getElem? (i := 295) (by decide +kernel), List.mem_of_getElem? (i := 841) (by decide +kernel), List.mem_of_getElem? (i := 842) (by decide +kernel)⟩
theorem lw_p18 : lw_okq (⟨"BranchTypes$Reader", "bears", "(LBranchTypes$Signature;I)Z"⟩, 3) := ⟨⟨by decide +kernel, by decide +kernel⟩, List.mem_of_getElem? (i := 295) (by decide +kernel), List.mem_of_getElem? (i := 846) (by decide +kernel), List.mem_of_getElem? (i := 847) (by decide +kernel)⟩
theorem lw_p19 : lw_okq (⟨"BranchTypes$Reader", "readHead", "(II)I"⟩, 3) := ⟨⟨by decide +kernel, by decide +kernel⟩, List.mem_of_getElem? (i := 295) (by decide +kernel), List.mem_of_getElem? (i := 850) (by decide +kernel), List.mem_of_getElem? (i := 851) (by decide +kernel)⟩
theorem lw_p20 : lw_okq (⟨"BranchTypes", "faulty", "()I"⟩, 15) := ⟨⟨by decide +kernel, by decide +kernel⟩, List.mem_of_getElem? (i := 21) (by decide +kernel), List.mem_of_getElem? (i := 904) (by decide +kernel), List.mem_of_getElem? (i := 905) (by decide +kernel)⟩
theorem lw_p21 : lw_okq (⟨"BranchTypes", "emptied", "(I)I"⟩, 15) := ⟨⟨by decide +kernel, by decide +kernel⟩, List.mem_of_getElem? (i := 21) (by decide +kernel), List.mem_of_getElem? (i := 908) (by decide +kernel), List.mem_of_getElem? (i := 909) (by decide +kernel)⟩
theorem lw_p22 : lw_okq (⟨"BranchTypes$Checker", "begin", "(LBranchTypes$Code;)V"⟩, 10) := ⟨⟨by decide +kernel, by decide +kernel⟩, List.mem_of_getElem? (i := 311) (by decide +kernel), List.mem_of_getElem? (i := 924) (by decide +kernel), List.mem_of_getElem? (i := 925) (by decide +kernel)⟩
theorem lw_p23 : lw_okq (⟨"BranchTypes$Checker", "extendScope", "(I)V"⟩, 10) := ⟨⟨by decide +kernel, by decide +kernel⟩, List.mem_of_getElem? (i := 311) (by decide +kernel), List.mem_of_getElem? (i := 934) (by decide +kernel), List.mem_of_getElem? (i := 935) (by decide +kernel)⟩
theorem lw_p24 : lw_okq (⟨"BranchTypes$Checker", "check", "(II)Z"⟩, 10) := ⟨⟨by decide +kernel, by decide +kernel⟩, List.mem_of_getElem? (i := 311) (by decide +kernel), List.mem_of_getElem? (i := 939) (by decide +kernel), List.mem_of_getElem? (i := 940) (by decide +kernel)⟩
theorem lw_p25 : lw_okq (⟨"BranchTypes$Checker", "infer", "(I)I"⟩, 10) := ⟨⟨by decide +kernel, by decide +kernel⟩, List.mem_of_getElem? (i := 311) (by decide +kernel), List.mem_of_getElem? (i := 950) (by decide +kernel), List.mem_of_getElem? (i := 951) (by decide +kernel)⟩
theorem lw_p26 : lw_okq (⟨"BranchTypes$Checker", "freshPair", "()I"⟩, 10) := ⟨⟨by decide +kernel, by decide +kernel⟩, List.mem_of_getElem? (i := 311) (by decide +kernel), List.mem_of_getElem? (i := 954) (by decide +kernel), List.mem_of_getElem? (i := 955) (by decide +kernel)⟩
theorem lw_p27 : lw_okq (⟨"BranchTypes$Checker", "agrees", "(III)Z"⟩, 10) := ⟨⟨by decide +kernel, by decide +kernel⟩, List.mem_of_getElem? (i := 311) (by decide +kernel), List.mem_of_getElem? (i := 958) (by decide +kernel), List.mem_of_getElem? (i := 959) (by decide +kernel)⟩
theorem lw_p28 : lw_okq (⟨"BranchTypes$Checker", "fails", "(II)Z"⟩, 10) := ⟨⟨by decide +kernel, by decide +kernel⟩, List.mem_of_getElem? (i := 311) (by decide +kernel), List.mem_of_getElem? (i := 963) (by decide +kernel), List.mem_of_getElem? (i := 964) (by decide +kernel)⟩
theorem lw_p29 : lw_okq (⟨"BranchTypes$Checker", "partOf", "(II)I"⟩, 10) := ⟨⟨by decide +kernel, by decide +kernel⟩, List.mem_of_getElem? (i := 311) (by decide +kernel), List.mem_of_getElem? (i := 968) (by decide +kernel), List.mem_of_getElem? (i := 969) (by decide +kernel)⟩
theorem lw_p30 : lw_okq (⟨"BranchTypes$Checker", "call", "(II)I"⟩, 10) := ⟨⟨by decide +kernel, by decide +kernel⟩, List.mem_of_getElem? (i := 311) (by decide +kernel), List.mem_of_getElem? (i := 973) (by decide +kernel), List.mem_of_getElem? (i := 974) (by decide +kernel)⟩
theorem lw_p31 : lw_okq (⟨"BranchTypes$Checker", "leaf", "(I)I"⟩, 10) := ⟨⟨by decide +kernel, by decide +kernel⟩, List.mem_of_getElem? (i := 311) (by decide +kernel), List.mem_of_getElem? (i := 978) (by decide +kernel), List.mem_of_getElem? (i := 979) (by decide +kernel)⟩
def lw_privs_2 : List (MethodName × Nat) := [(⟨"BranchTypes$Reader", "read", "(II)I"⟩, 3), (⟨"BranchTypes$Reader", "readMatch", "(II)I"⟩, 3), (⟨"BranchTypes$Reader", "bears", "(LBranchTypes$Signature;I)Z"⟩, 3), (⟨"BranchTypes$Reader", "readHead", "(II)I"⟩, 3), (⟨"BranchTypes", "faulty", "()I"⟩, 15), (⟨"BranchTypes", "emptied", "(I)I"⟩, 15), (⟨"BranchTypes$Checker", "begin", "(LBranchTypes$Code;)V"⟩, 10), (⟨"BranchTypes$Checker", "extendScope", "(I)V"⟩, 10), (⟨"BranchTypes$Checker", "check", "(II)Z"⟩, 10), (⟨"BranchTypes$Checker", "infer", "(I)I"⟩, 10), (⟨"BranchTypes$Checker", "freshPair", "()I"⟩, 10), (⟨"BranchTypes$Checker", "agrees", "(III)Z"⟩, 10), (⟨"BranchTypes$Checker", "fails", "(II)Z"⟩, 10), (⟨"BranchTypes$Checker", "partOf", "(II)I"⟩, 10), (⟨"BranchTypes$Checker", "call", "(II)I"⟩, 10), (⟨"BranchTypes$Checker", "leaf", "(I)I"⟩, 10)]
theorem lw_r2 : ∀ q ∈ lw_privs_2, lw_okq q := List.forall_mem_cons.mpr ⟨lw_p16, List.forall_mem_cons.mpr ⟨lw_p17, List.forall_mem_cons.mpr ⟨lw_p18, List.forall_mem_cons.mpr ⟨lw_p19, List.forall_mem_cons.mpr ⟨lw_p20, List.forall_mem_cons.mpr ⟨lw_p21, List.forall_mem_cons.mpr ⟨lw_p22, List.forall_mem_cons.mpr ⟨lw_p23, List.forall_mem_cons.mpr ⟨lw_p24, List.forall_mem_cons.mpr ⟨lw_p25, List.forall_mem_cons.mpr ⟨lw_p26, List.forall_mem_cons.mpr ⟨lw_p27, List.forall_mem_cons.mpr ⟨lw_p28, List.forall_mem_cons.mpr ⟨lw_p29, List.forall_mem_cons.mpr ⟨lw_p30, List.forall_mem_cons.mpr ⟨lw_p31, fun _ h => absurd h List.not_mem_nil⟩⟩⟩⟩⟩⟩⟩⟩⟩⟩⟩⟩⟩⟩⟩⟩
theorem lw_p32 : lw_okq (⟨"BranchTypes$Checker", "checkMatch", "(II)Z"⟩, 10) := ⟨⟨by decide +kernel, by decide +kernel⟩, List.mem_of_getElem? (i := 311) (by decide +kernel), List.mem_of_getElem? (i := 982) (by decide +kernel), List.mem_of_getElem? (i := 983) (by decide +kernel)⟩
theorem lw_p33 : lw_okq (⟨"BranchTypes$Checker", "checkCase", "(ILBranchTypes$Signature;II)Z"⟩, 10) := ⟨⟨by decide +kernel, by decide +kernel⟩, List.mem_of_getElem? (i := 311) (by decide +kernel), List.mem_of_getElem? (i := 991) (by decide +kernel), List.mem_of_getElem? (i := 992) (by decide +kernel)⟩
theorem lw_p34 : lw_okq (⟨"BranchTypes$Machine", "evaluate", "(LBranchTypes$Code;III)I"⟩, 12) := ⟨⟨by decide +kernel, by decide +kernel⟩, List.mem_of_getElem? (i := 350) (by decide +kernel), List.mem_of_getElem? (i := 1010) (by decide +kernel), List.mem_of_getElem? (i := 1011) (by decide +kernel)⟩
theorem lw_p35 : lw_okq (⟨"BranchTypes$Machine", "choose", "(LBranchTypes$Code;III)I"⟩, 12) := ⟨⟨by decide +kernel, by decide +kernel⟩, List.mem_of_getElem? (i := 350) (by decide +kernel), List.mem_of_getElem? (i := 1016) (by decide +kernel), List.mem_of_getElem? (i := 1017) (by decide +kernel)⟩
theorem lw_p36 : lw_okq (⟨"BranchTypes$Machine", "contentOf", "(I)I"⟩, 12) := ⟨⟨by decide +kernel, by decide +kernel⟩, List.mem_of_getElem? (i := 350) (by decide +kernel), List.mem_of_getElem? (i := 1021) (by decide +kernel), List.mem_of_getElem? (i := 1022) (by decide +kernel)⟩
theorem lw_p37 : lw_okq (⟨"BranchTypes$Machine", "has", "(I)Z"⟩, 12) := ⟨⟨by decide +kernel, by decide +kernel⟩, List.mem_of_getElem? (i := 350) (by decide +kernel), List.mem_of_getElem? (i := 1025) (by decide +kernel), List.mem_of_getElem? (i := 1026) (by decide +kernel)⟩
theorem lw_p38 : lw_okq (⟨"BranchTypes$Machine", "match", "(LBranchTypes$Code;III)I"⟩, 12) := ⟨⟨by decide +kernel, by decide +kernel⟩, List.mem_of_getElem? (i := 350) (by decide +kernel), List.mem_of_getElem? (i := 1029) (by decide +kernel), List.mem_of_getElem? (i := 1030) (by decide +kernel)⟩
theorem lw_p39 : lw_okq (⟨"BranchTypes$Machine", "kindOf", "(I)I"⟩, 12) := ⟨⟨by decide +kernel, by decide +kernel⟩, List.mem_of_getElem? (i := 350) (by decide +kernel), List.mem_of_getElem? (i := 1034) (by decide +kernel), List.mem_of_getElem? (i := 1035) (by decide +kernel)⟩
theorem lw_p40 : lw_okq (⟨"BranchTypes$Machine", "widthOf", "(I)I"⟩, 12) := ⟨⟨by decide +kernel, by decide +kernel⟩, List.mem_of_getElem? (i := 350) (by decide +kernel), List.mem_of_getElem? (i := 1038) (by decide +kernel), List.mem_of_getElem? (i := 1039) (by decide +kernel)⟩
theorem lw_p41 : lw_okq (⟨"BranchTypes$Machine", "partOf", "(II)I"⟩, 12) := ⟨⟨by decide +kernel, by decide +kernel⟩, List.mem_of_getElem? (i := 350) (by decide +kernel), List.mem_of_getElem? (i := 1042) (by decide +kernel), List.mem_of_getElem? (i := 1043) (by decide +kernel)⟩
theorem lw_p42 : lw_okq (⟨"BranchTypes$Machine", "extendScope", "(I)V"⟩, 12) := ⟨⟨by decide +kernel, by decide +kernel⟩, List.mem_of_getElem? (i := 350) (by decide +kernel), List.mem_of_getElem? (i := 1046) (by decide +kernel), List.mem_of_getElem? (i := 1047) (by decide +kernel)⟩
theorem lw_p43 : lw_okq (⟨"BranchTypes$Machine", "hold", "(I)V"⟩, 12) := ⟨⟨by decide +kernel, by decide +kernel⟩, List.mem_of_getElem? (i := 350) (by decide +kernel), List.mem_of_getElem? (i := 1052) (by decide +kernel), List.mem_of_getElem? (i := 1053) (by decide +kernel)⟩
theorem lw_p44 : lw_okq (⟨"BranchTypes$Machine", "enter", "(III)I"⟩, 12) := ⟨⟨by decide +kernel, by decide +kernel⟩, List.mem_of_getElem? (i := 350) (by decide +kernel), List.mem_of_getElem? (i := 1056) (by decide +kernel), List.mem_of_getElem? (i := 1057) (by decide +kernel)⟩
theorem lw_p45 : lw_okq (⟨"BranchTypes$Machine", "compose", "(LBranchTypes$Code;III)I"⟩, 12) := ⟨⟨by decide +kernel, by decide +kernel⟩, List.mem_of_getElem? (i := 350) (by decide +kernel), List.mem_of_getElem? (i := 1064) (by decide +kernel), List.mem_of_getElem? (i := 1065) (by decide +kernel)⟩
theorem lw_p46 : lw_okq (⟨"BranchTypes$Machine", "heldAt", "(I)I"⟩, 12) := ⟨⟨by decide +kernel, by decide +kernel⟩, List.mem_of_getElem? (i := 350) (by decide +kernel), List.mem_of_getElem? (i := 1068) (by decide +kernel), List.mem_of_getElem? (i := 1069) (by decide +kernel)⟩
theorem lw_p47 : lw_okq (⟨"BranchTypes$Machine", "single", "(II)I"⟩, 12) := ⟨⟨by decide +kernel, by decide +kernel⟩, List.mem_of_getElem? (i := 350) (by decide +kernel), List.mem_of_getElem? (i := 1072) (by decide +kernel), List.mem_of_getElem? (i := 1073) (by decide +kernel)⟩
def lw_privs_3 : List (MethodName × Nat) := [(⟨"BranchTypes$Checker", "checkMatch", "(II)Z"⟩, 10), (⟨"BranchTypes$Checker", "checkCase", "(ILBranchTypes$Signature;II)Z"⟩, 10), (⟨"BranchTypes$Machine", "evaluate", "(LBranchTypes$Code;III)I"⟩, 12), (⟨"BranchTypes$Machine", "choose", "(LBranchTypes$Code;III)I"⟩, 12), (⟨"BranchTypes$Machine", "contentOf", "(I)I"⟩, 12), (⟨"BranchTypes$Machine", "has", "(I)Z"⟩, 12), (⟨"BranchTypes$Machine", "match", "(LBranchTypes$Code;III)I"⟩, 12), (⟨"BranchTypes$Machine", "kindOf", "(I)I"⟩, 12), (⟨"BranchTypes$Machine", "widthOf", "(I)I"⟩, 12), (⟨"BranchTypes$Machine", "partOf", "(II)I"⟩, 12), (⟨"BranchTypes$Machine", "extendScope", "(I)V"⟩, 12), (⟨"BranchTypes$Machine", "hold", "(I)V"⟩, 12), (⟨"BranchTypes$Machine", "enter", "(III)I"⟩, 12), (⟨"BranchTypes$Machine", "compose", "(LBranchTypes$Code;III)I"⟩, 12), (⟨"BranchTypes$Machine", "heldAt", "(I)I"⟩, 12), (⟨"BranchTypes$Machine", "single", "(II)I"⟩, 12)]
theorem lw_r3 : ∀ q ∈ lw_privs_3, lw_okq q := List.forall_mem_cons.mpr ⟨lw_p32, List.forall_mem_cons.mpr ⟨lw_p33, List.forall_mem_cons.mpr ⟨lw_p34, List.forall_mem_cons.mpr ⟨lw_p35, List.forall_mem_cons.mpr ⟨lw_p36, List.forall_mem_cons.mpr ⟨lw_p37, List.forall_mem_cons.mpr ⟨lw_p38, List.forall_mem_cons.mpr ⟨lw_p39, List.forall_mem_cons.mpr ⟨lw_p40, List.forall_mem_cons.mpr ⟨lw_p41, List.forall_mem_cons.mpr ⟨lw_p42, List.forall_mem_cons.mpr ⟨lw_p43, List.forall_mem_cons.mpr ⟨lw_p44, List.forall_mem_cons.mpr ⟨lw_p45, List.forall_mem_cons.mpr ⟨lw_p46, List.forall_mem_cons.mpr ⟨lw_p47, fun _ h => absurd h List.not_mem_nil⟩⟩⟩⟩⟩⟩⟩⟩⟩⟩⟩⟩⟩⟩⟩⟩
theorem lw_p48 : lw_okq (⟨"BranchTypes$Machine", "composed", "(II)I"⟩, 12) := ⟨⟨by decide +kernel, by decide +kernel⟩, List.mem_of_getElem? (i := 350) (by decide +kernel), List.mem_of_getElem? (i := 1076) (by decide +kernel), List.mem_of_getElem? (i := 1077) (by decide +kernel)⟩
theorem lw_p49 : lw_okq (⟨"BranchTypes$Machine", "scopeAt", "(I)I"⟩, 12) := ⟨⟨by decide +kernel, by decide +kernel⟩, List.mem_of_getElem? (i := 350) (by decide +kernel), List.mem_of_getElem? (i := 1081) (by decide +kernel), List.mem_of_getElem? (i := 1082) (by decide +kernel)⟩
theorem lw_p50 : lw_okq (⟨"BranchTypes$Machine", "writeHead", "(ILBranchTypes$Kept;)V"⟩, 12) := ⟨⟨by decide +kernel, by decide +kernel⟩, List.mem_of_getElem? (i := 350) (by decide +kernel), List.mem_of_getElem? (i := 1107) (by decide +kernel), List.mem_of_getElem? (i := 1108) (by decide +kernel)⟩
theorem lw_p51 : lw_okq (⟨"BranchTypesModel", "isType", "(I)Z"⟩, 89) := ⟨⟨by decide +kernel, by decide +kernel⟩, List.mem_of_getElem? (i := 1167) (by decide +kernel), List.mem_of_getElem? (i := 1481) (by decide +kernel), List.mem_of_getElem? (i := 1482) (by decide +kernel)⟩
theorem lw_p52 : lw_okq (⟨"BranchTypesModel", "refuses", "(I)I"⟩, 89) := ⟨⟨by decide +kernel, by decide +kernel⟩, List.mem_of_getElem? (i := 1167) (by decide +kernel), List.mem_of_getElem? (i := 1485) (by decide +kernel), List.mem_of_getElem? (i := 1486) (by decide +kernel)⟩
theorem lw_p53 : lw_okq (⟨"BranchTypesModel", "found", "(III)I"⟩, 89) := ⟨⟨by decide +kernel, by decide +kernel⟩, List.mem_of_getElem? (i := 1167) (by decide +kernel), List.mem_of_getElem? (i := 1489) (by decide +kernel), List.mem_of_getElem? (i := 1490) (by decide +kernel)⟩
theorem lw_p54 : lw_okq (⟨"BranchTypesModel", "makes", "(III)I"⟩, 89) := ⟨⟨by decide +kernel, by decide +kernel⟩, List.mem_of_getElem? (i := 1167) (by decide +kernel), List.mem_of_getElem? (i := 1493) (by decide +kernel), List.mem_of_getElem? (i := 1494) (by decide +kernel)⟩
theorem lw_p55 : lw_okq (⟨"BranchTypesModel", "classed", "()V"⟩, 89) := ⟨⟨by decide +kernel, by decide +kernel⟩, List.mem_of_getElem? (i := 1167) (by decide +kernel), List.mem_of_getElem? (i := 1497) (by decide +kernel), List.mem_of_getElem? (i := 1498) (by decide +kernel)⟩
theorem lw_p56 : lw_okq (⟨"BranchTypesModel", "merges", "(II)Z"⟩, 89) := ⟨⟨by decide +kernel, by decide +kernel⟩, List.mem_of_getElem? (i := 1167) (by decide +kernel), List.mem_of_getElem? (i := 1501) (by decide +kernel), List.mem_of_getElem? (i := 1502) (by decide +kernel)⟩
theorem lw_p57 : lw_okq (⟨"BranchTypesModel", "joins", "(II)Z"⟩, 89) := ⟨⟨by decide +kernel, by decide +kernel⟩, List.mem_of_getElem? (i := 1167) (by decide +kernel), List.mem_of_getElem? (i := 1505) (by decide +kernel), List.mem_of_getElem? (i := 1506) (by decide +kernel)⟩
theorem lw_p58 : lw_okq (⟨"BranchTypesModel", "shapes", "()V"⟩, 89) := ⟨⟨by decide +kernel, by decide +kernel⟩, List.mem_of_getElem? (i := 1167) (by decide +kernel), List.mem_of_getElem? (i := 1509) (by decide +kernel), List.mem_of_getElem? (i := 1510) (by decide +kernel)⟩
theorem lw_p59 : lw_okq (⟨"BranchTypesModel", "branches", "()V"⟩, 89) := ⟨⟨by decide +kernel, by decide +kernel⟩, List.mem_of_getElem? (i := 1167) (by decide +kernel), List.mem_of_getElem? (i := 1520) (by decide +kernel), List.mem_of_getElem? (i := 1521) (by decide +kernel)⟩
theorem lw_p60 : lw_okq (⟨"BranchTypesModel", "unbranches", "()I"⟩, 89) := ⟨⟨by decide +kernel, by decide +kernel⟩, List.mem_of_getElem? (i := 1167) (by decide +kernel), List.mem_of_getElem? (i := 1528) (by decide +kernel), List.mem_of_getElem? (i := 1529) (by decide +kernel)⟩
theorem lw_p61 : lw_okq (⟨"BranchTypesModel", "isKnown", "(I)Z"⟩, 89) := ⟨⟨by decide +kernel, by decide +kernel⟩, List.mem_of_getElem? (i := 1167) (by decide +kernel), List.mem_of_getElem? (i := 1536) (by decide +kernel), List.mem_of_getElem? (i := 1537) (by decide +kernel)⟩
theorem lw_p62 : lw_okq (⟨"BranchTypesModel", "worked", "(II)I"⟩, 89) := ⟨⟨by decide +kernel, by decide +kernel⟩, List.mem_of_getElem? (i := 1167) (by decide +kernel), List.mem_of_getElem? (i := 1540) (by decide +kernel), List.mem_of_getElem? (i := 1541) (by decide +kernel)⟩
theorem lw_p63 : lw_okq (⟨"BranchTypesModel", "works", "(I)V"⟩, 89) := ⟨⟨by decide +kernel, by decide +kernel⟩, List.mem_of_getElem? (i := 1167) (by decide +kernel), List.mem_of_getElem? (i := 1544) (by decide +kernel), List.mem_of_getElem? (i := 1545) (by decide +kernel)⟩
def lw_privs_4 : List (MethodName × Nat) := [(⟨"BranchTypes$Machine", "composed", "(II)I"⟩, 12), (⟨"BranchTypes$Machine", "scopeAt", "(I)I"⟩, 12), (⟨"BranchTypes$Machine", "writeHead", "(ILBranchTypes$Kept;)V"⟩, 12), (⟨"BranchTypesModel", "isType", "(I)Z"⟩, 89), (⟨"BranchTypesModel", "refuses", "(I)I"⟩, 89), (⟨"BranchTypesModel", "found", "(III)I"⟩, 89), (⟨"BranchTypesModel", "makes", "(III)I"⟩, 89), (⟨"BranchTypesModel", "classed", "()V"⟩, 89), (⟨"BranchTypesModel", "merges", "(II)Z"⟩, 89), (⟨"BranchTypesModel", "joins", "(II)Z"⟩, 89), (⟨"BranchTypesModel", "shapes", "()V"⟩, 89), (⟨"BranchTypesModel", "branches", "()V"⟩, 89), (⟨"BranchTypesModel", "unbranches", "()I"⟩, 89), (⟨"BranchTypesModel", "isKnown", "(I)Z"⟩, 89), (⟨"BranchTypesModel", "worked", "(II)I"⟩, 89), (⟨"BranchTypesModel", "works", "(I)V"⟩, 89)]
theorem lw_r4 : ∀ q ∈ lw_privs_4, lw_okq q := List.forall_mem_cons.mpr ⟨lw_p48, List.forall_mem_cons.mpr ⟨lw_p49, List.forall_mem_cons.mpr ⟨lw_p50, List.forall_mem_cons.mpr ⟨lw_p51, List.forall_mem_cons.mpr ⟨lw_p52, List.forall_mem_cons.mpr ⟨lw_p53, List.forall_mem_cons.mpr ⟨lw_p54, List.forall_mem_cons.mpr ⟨lw_p55, List.forall_mem_cons.mpr ⟨lw_p56, List.forall_mem_cons.mpr ⟨lw_p57, List.forall_mem_cons.mpr ⟨lw_p58, List.forall_mem_cons.mpr ⟨lw_p59, List.forall_mem_cons.mpr ⟨lw_p60, List.forall_mem_cons.mpr ⟨lw_p61, List.forall_mem_cons.mpr ⟨lw_p62, List.forall_mem_cons.mpr ⟨lw_p63, fun _ h => absurd h List.not_mem_nil⟩⟩⟩⟩⟩⟩⟩⟩⟩⟩⟩⟩⟩⟩⟩⟩
theorem lw_p64 : lw_okq (⟨"BranchTypesModel", "worth", "(IIII)I"⟩, 89) := ⟨⟨by decide +kernel, by decide +kernel⟩, List.mem_of_getElem? (i := 1167) (by decide +kernel), List.mem_of_getElem? (i := 1548) (by decide +kernel), List.mem_of_getElem? (i := 1549) (by decide +kernel)⟩
theorem lw_p65 : lw_okq (⟨"BranchTypesModel", "equated", "(II)I"⟩, 89) := ⟨⟨by decide +kernel, by decide +kernel⟩, List.mem_of_getElem? (i := 1167) (by decide +kernel), List.mem_of_getElem? (i := 1552) (by decide +kernel), List.mem_of_getElem? (i := 1553) (by decide +kernel)⟩
theorem lw_p66 : lw_okq (⟨"BranchTypesModel", "manyClasses", "()I"⟩, 89) := ⟨⟨by decide +kernel, by decide +kernel⟩, List.mem_of_getElem? (i := 1167) (by decide +kernel), List.mem_of_getElem? (i := 1556) (by decide +kernel), List.mem_of_getElem? (i := 1557) (by decide +kernel)⟩
theorem lw_p67 : lw_okq (⟨"BranchTypesModel", "equal", "(II)V"⟩, 89) := ⟨⟨by decide +kernel, by decide +kernel⟩, List.mem_of_getElem? (i := 1167) (by decide +kernel), List.mem_of_getElem? (i := 1560) (by decide +kernel), List.mem_of_getElem? (i := 1561) (by decide +kernel)⟩
theorem lw_p68 : lw_okq (⟨"BranchTypesModel", "clashes", "()Z"⟩, 89) := ⟨⟨by decide +kernel, by decide +kernel⟩, List.mem_of_getElem? (i := 1167) (by decide +kernel), List.mem_of_getElem? (i := 1564) (by decide +kernel), List.mem_of_getElem? (i := 1565) (by decide +kernel)⟩
theorem lw_p69 : lw_okq (⟨"BranchTypesModel", "headOf", "(I)I"⟩, 89) := ⟨⟨by decide +kernel, by decide +kernel⟩, List.mem_of_getElem? (i := 1167) (by decide +kernel), List.mem_of_getElem? (i := 1568) (by decide +kernel), List.mem_of_getElem? (i := 1569) (by decide +kernel)⟩
theorem lw_p70 : lw_okq (⟨"BranchTypesModel", "shapeOf", "(I)I"⟩, 89) := ⟨⟨by decide +kernel, by decide +kernel⟩, List.mem_of_getElem? (i := 1167) (by decide +kernel), List.mem_of_getElem? (i := 1572) (by decide +kernel), List.mem_of_getElem? (i := 1573) (by decide +kernel)⟩
theorem lw_p71 : lw_okq (⟨"BranchTypesModel", "unequal", "()V"⟩, 89) := ⟨⟨by decide +kernel, by decide +kernel⟩, List.mem_of_getElem? (i := 1167) (by decide +kernel), List.mem_of_getElem? (i := 1576) (by decide +kernel), List.mem_of_getElem? (i := 1577) (by decide +kernel)⟩
theorem lw_p72 : lw_okq (⟨"BranchTypesModel", "united", "(II)I"⟩, 89) := ⟨⟨by decide +kernel, by decide +kernel⟩, List.mem_of_getElem? (i := 1167) (by decide +kernel), List.mem_of_getElem? (i := 1584) (by decide +kernel), List.mem_of_getElem? (i := 1585) (by decide +kernel)⟩
theorem lw_p73 : lw_okq (⟨"BranchTypesModel", "holds", "()V"⟩, 89) := ⟨⟨by decide +kernel, by decide +kernel⟩, List.mem_of_getElem? (i := 1167) (by decide +kernel), List.mem_of_getElem? (i := 1588) (by decide +kernel), List.mem_of_getElem? (i := 1589) (by decide +kernel)⟩
theorem lw_p74 : lw_okq (⟨"BranchTypesModel", "isFixed", "()Z"⟩, 89) := ⟨⟨by decide +kernel, by decide +kernel⟩, List.mem_of_getElem? (i := 1167) (by decide +kernel), List.mem_of_getElem? (i := 1592) (by decide +kernel), List.mem_of_getElem? (i := 1593) (by decide +kernel)⟩
theorem lw_p75 : lw_okq (⟨"BranchTypesModel", "benchOf", "(I)I"⟩, 89) := ⟨⟨by decide +kernel, by decide +kernel⟩, List.mem_of_getElem? (i := 1167) (by decide +kernel), List.mem_of_getElem? (i := 1628) (by decide +kernel), List.mem_of_getElem? (i := 1629) (by decide +kernel)⟩
theorem lw_p76 : lw_okq (⟨"BranchTypesModel", "isConstructor", "(I)Z"⟩, 89) := ⟨⟨by decide +kernel, by decide +kernel⟩, List.mem_of_getElem? (i := 1167) (by decide +kernel), List.mem_of_getElem? (i := 1636) (by decide +kernel), List.mem_of_getElem? (i := 1637) (by decide +kernel)⟩
theorem lw_p77 : lw_okq (⟨"BranchTypesModel", "branchClashes", "(II)Z"⟩, 89) := ⟨⟨by decide +kernel, by decide +kernel⟩, List.mem_of_getElem? (i := 1167) (by decide +kernel), List.mem_of_getElem? (i := 1640) (by decide +kernel), List.mem_of_getElem? (i := 1641) (by decide +kernel)⟩
theorem lw_p78 : lw_okq (⟨"BranchTypesModel", "tells", "(II)V"⟩, 89) := ⟨⟨by decide +kernel, by decide +kernel⟩, List.mem_of_getElem? (i := 1167) (by decide +kernel), List.mem_of_getElem? (i := 1644) (by decide +kernel), List.mem_of_getElem? (i := 1645) (by decide +kernel)⟩
theorem lw_p79 : lw_okq (⟨"BranchTypesModel", "typeOf", "(II)I"⟩, 89) := ⟨⟨by decide +kernel, by decide +kernel⟩, List.mem_of_getElem? (i := 1167) (by decide +kernel), List.mem_of_getElem? (i := 1648) (by decide +kernel), List.mem_of_getElem? (i := 1649) (by decide +kernel)⟩
def lw_privs_5 : List (MethodName × Nat) := [(⟨"BranchTypesModel", "worth", "(IIII)I"⟩, 89), (⟨"BranchTypesModel", "equated", "(II)I"⟩, 89), (⟨"BranchTypesModel", "manyClasses", "()I"⟩, 89), (⟨"BranchTypesModel", "equal", "(II)V"⟩, 89), (⟨"BranchTypesModel", "clashes", "()Z"⟩, 89), (⟨"BranchTypesModel", "headOf", "(I)I"⟩, 89), (⟨"BranchTypesModel", "shapeOf", "(I)I"⟩, 89), (⟨"BranchTypesModel", "unequal", "()V"⟩, 89), (⟨"BranchTypesModel", "united", "(II)I"⟩, 89), (⟨"BranchTypesModel", "holds", "()V"⟩, 89), (⟨"BranchTypesModel", "isFixed", "()Z"⟩, 89), (⟨"BranchTypesModel", "benchOf", "(I)I"⟩, 89), (⟨"BranchTypesModel", "isConstructor", "(I)Z"⟩, 89), (⟨"BranchTypesModel", "branchClashes", "(II)Z"⟩, 89), (⟨"BranchTypesModel", "tells", "(II)V"⟩, 89), (⟨"BranchTypesModel", "typeOf", "(II)I"⟩, 89)]
theorem lw_r5 : ∀ q ∈ lw_privs_5, lw_okq q := List.forall_mem_cons.mpr ⟨lw_p64, List.forall_mem_cons.mpr ⟨lw_p65, List.forall_mem_cons.mpr ⟨lw_p66, List.forall_mem_cons.mpr ⟨lw_p67, List.forall_mem_cons.mpr ⟨lw_p68, List.forall_mem_cons.mpr ⟨lw_p69, List.forall_mem_cons.mpr ⟨lw_p70, List.forall_mem_cons.mpr ⟨lw_p71, List.forall_mem_cons.mpr ⟨lw_p72, List.forall_mem_cons.mpr ⟨lw_p73, List.forall_mem_cons.mpr ⟨lw_p74, List.forall_mem_cons.mpr ⟨lw_p75, List.forall_mem_cons.mpr ⟨lw_p76, List.forall_mem_cons.mpr ⟨lw_p77, List.forall_mem_cons.mpr ⟨lw_p78, List.forall_mem_cons.mpr ⟨lw_p79, fun _ h => absurd h List.not_mem_nil⟩⟩⟩⟩⟩⟩⟩⟩⟩⟩⟩⟩⟩⟩⟩⟩
theorem lw_p80 : lw_okq (⟨"BranchTypesModel", "takesText", "()V"⟩, 89) := ⟨⟨by decide +kernel, by decide +kernel⟩, List.mem_of_getElem? (i := 1167) (by decide +kernel), List.mem_of_getElem? (i := 1664) (by decide +kernel), List.mem_of_getElem? (i := 1665) (by decide +kernel)⟩
theorem lw_p81 : lw_okq (⟨"BranchTypesModel", "isHeading", "()Z"⟩, 89) := ⟨⟨by decide +kernel, by decide +kernel⟩, List.mem_of_getElem? (i := 1167) (by decide +kernel), List.mem_of_getElem? (i := 1668) (by decide +kernel), List.mem_of_getElem? (i := 1669) (by decide +kernel)⟩
theorem lw_p82 : lw_okq (⟨"BranchTypesModel", "byteAt", "(I)I"⟩, 89) := ⟨⟨by decide +kernel, by decide +kernel⟩, List.mem_of_getElem? (i := 1167) (by decide +kernel), List.mem_of_getElem? (i := 1672) (by decide +kernel), List.mem_of_getElem? (i := 1673) (by decide +kernel)⟩
theorem lw_p83 : lw_okq (⟨"BranchTypesModel", "skipsType", "()Z"⟩, 89) := ⟨⟨by decide +kernel, by decide +kernel⟩, List.mem_of_getElem? (i := 1167) (by decide +kernel), List.mem_of_getElem? (i := 1676) (by decide +kernel), List.mem_of_getElem? (i := 1677) (by decide +kernel)⟩
theorem lw_p84 : lw_okq (⟨"BranchTypesModel", "skipsSign", "(I)Z"⟩, 89) := ⟨⟨by decide +kernel, by decide +kernel⟩, List.mem_of_getElem? (i := 1167) (by decide +kernel), List.mem_of_getElem? (i := 1680) (by decide +kernel), List.mem_of_getElem? (i := 1681) (by decide +kernel)⟩
theorem lw_p85 : lw_okq (⟨"BranchTypesModel", "faults", "(II)I"⟩, 89) := ⟨⟨by decide +kernel, by decide +kernel⟩, List.mem_of_getElem? (i := 1167) (by decide +kernel), List.mem_of_getElem? (i := 1684) (by decide +kernel), List.mem_of_getElem? (i := 1685) (by decide +kernel)⟩
theorem lw_p86 : lw_okq (⟨"BranchTypesModel", "declares", "(I)V"⟩, 89) := ⟨⟨by decide +kernel, by decide +kernel⟩, List.mem_of_getElem? (i := 1167) (by decide +kernel), List.mem_of_getElem? (i := 1688) (by decide +kernel), List.mem_of_getElem? (i := 1689) (by decide +kernel)⟩
theorem lw_p87 : lw_okq (⟨"BranchTypesModel", "keepsHeading", "(I)V"⟩, 89) := ⟨⟨by decide +kernel, by decide +kernel⟩, List.mem_of_getElem? (i := 1167) (by decide +kernel), List.mem_of_getElem? (i := 1692) (by decide +kernel), List.mem_of_getElem? (i := 1693) (by decide +kernel)⟩
theorem lw_p88 : lw_okq (⟨"BranchTypesModel", "signsOne", "()V"⟩, 89) := ⟨⟨by decide +kernel, by decide +kernel⟩, List.mem_of_getElem? (i := 1167) (by decide +kernel), List.mem_of_getElem? (i := 1700) (by decide +kernel), List.mem_of_getElem? (i := 1701) (by decide +kernel)⟩
theorem lw_p89 : lw_okq (⟨"BranchTypesModel", "isFunction", "(I)Z"⟩, 89) := ⟨⟨by decide +kernel, by decide +kernel⟩, List.mem_of_getElem? (i := 1167) (by decide +kernel), List.mem_of_getElem? (i := 1708) (by decide +kernel), List.mem_of_getElem? (i := 1709) (by decide +kernel)⟩
theorem lw_p90 : lw_okq (⟨"BranchTypesModel", "isTree", "(I)Z"⟩, 89) := ⟨⟨by decide +kernel, by decide +kernel⟩, List.mem_of_getElem? (i := 1167) (by decide +kernel), List.mem_of_getElem? (i := 1712) (by decide +kernel), List.mem_of_getElem? (i := 1713) (by decide +kernel)⟩
theorem lw_p91 : lw_okq (⟨"BranchTypesModel", "starts", "(III)V"⟩, 89) := ⟨⟨by decide +kernel, by decide +kernel⟩, List.mem_of_getElem? (i := 1167) (by decide +kernel), List.mem_of_getElem? (i := 1716) (by decide +kernel), List.mem_of_getElem? (i := 1717) (by decide +kernel)⟩
theorem lw_p92 : lw_okq (⟨"BranchTypesModel", "readsOne", "(I)Z"⟩, 89) := ⟨⟨by decide +kernel, by decide +kernel⟩, List.mem_of_getElem? (i := 1167) (by decide +kernel), List.mem_of_getElem? (i := 1720) (by decide +kernel), List.mem_of_getElem? (i := 1721) (by decide +kernel)⟩
theorem lw_p93 : lw_okq (⟨"BranchTypesModel", "wrong", "(I)Z"⟩, 89) := ⟨⟨by decide +kernel, by decide +kernel⟩, List.mem_of_getElem? (i := 1167) (by decide +kernel), List.mem_of_getElem? (i := 1727) (by decide +kernel), List.mem_of_getElem? (i := 1728) (by decide +kernel)⟩
theorem lw_p94 : lw_okq (⟨"BranchTypesModel", "hangs", "(II)I"⟩, 89) := ⟨⟨by decide +kernel, by decide +kernel⟩, List.mem_of_getElem? (i := 1167) (by decide +kernel), List.mem_of_getElem? (i := 1731) (by decide +kernel), List.mem_of_getElem? (i := 1732) (by decide +kernel)⟩
theorem lw_p95 : lw_okq (⟨"BranchTypesModel", "takesFigure", "(III)Z"⟩, 89) := ⟨⟨by decide +kernel, by decide +kernel⟩, List.mem_of_getElem? (i := 1167) (by decide +kernel), List.mem_of_getElem? (i := 1735) (by decide +kernel), List.mem_of_getElem? (i := 1736) (by decide +kernel)⟩
def lw_privs_6 : List (MethodName × Nat) := [(⟨"BranchTypesModel", "takesText", "()V"⟩, 89), (⟨"BranchTypesModel", "isHeading", "()Z"⟩, 89), (⟨"BranchTypesModel", "byteAt", "(I)I"⟩, 89), (⟨"BranchTypesModel", "skipsType", "()Z"⟩, 89), (⟨"BranchTypesModel", "skipsSign", "(I)Z"⟩, 89), (⟨"BranchTypesModel", "faults", "(II)I"⟩, 89), (⟨"BranchTypesModel", "declares", "(I)V"⟩, 89), (⟨"BranchTypesModel", "keepsHeading", "(I)V"⟩, 89), (⟨"BranchTypesModel", "signsOne", "()V"⟩, 89), (⟨"BranchTypesModel", "isFunction", "(I)Z"⟩, 89), (⟨"BranchTypesModel", "isTree", "(I)Z"⟩, 89), (⟨"BranchTypesModel", "starts", "(III)V"⟩, 89), (⟨"BranchTypesModel", "readsOne", "(I)Z"⟩, 89), (⟨"BranchTypesModel", "wrong", "(I)Z"⟩, 89), (⟨"BranchTypesModel", "hangs", "(II)I"⟩, 89), (⟨"BranchTypesModel", "takesFigure", "(III)Z"⟩, 89)]
theorem lw_r6 : ∀ q ∈ lw_privs_6, lw_okq q := List.forall_mem_cons.mpr ⟨lw_p80, List.forall_mem_cons.mpr ⟨lw_p81, List.forall_mem_cons.mpr ⟨lw_p82, List.forall_mem_cons.mpr ⟨lw_p83, List.forall_mem_cons.mpr ⟨lw_p84, List.forall_mem_cons.mpr ⟨lw_p85, List.forall_mem_cons.mpr ⟨lw_p86, List.forall_mem_cons.mpr ⟨lw_p87, List.forall_mem_cons.mpr ⟨lw_p88, List.forall_mem_cons.mpr ⟨lw_p89, List.forall_mem_cons.mpr ⟨lw_p90, List.forall_mem_cons.mpr ⟨lw_p91, List.forall_mem_cons.mpr ⟨lw_p92, List.forall_mem_cons.mpr ⟨lw_p93, List.forall_mem_cons.mpr ⟨lw_p94, List.forall_mem_cons.mpr ⟨lw_p95, fun _ h => absurd h List.not_mem_nil⟩⟩⟩⟩⟩⟩⟩⟩⟩⟩⟩⟩⟩⟩⟩⟩
theorem lw_p96 : lw_okq (⟨"BranchTypesModel", "readsCase", "(I)Z"⟩, 89) := ⟨⟨by decide +kernel, by decide +kernel⟩, List.mem_of_getElem? (i := 1167) (by decide +kernel), List.mem_of_getElem? (i := 1739) (by decide +kernel), List.mem_of_getElem? (i := 1740) (by decide +kernel)⟩
theorem lw_p97 : lw_okq (⟨"BranchTypesModel", "apart", "()V"⟩, 89) := ⟨⟨by decide +kernel, by decide +kernel⟩, List.mem_of_getElem? (i := 1167) (by decide +kernel), List.mem_of_getElem? (i := 1743) (by decide +kernel), List.mem_of_getElem? (i := 1744) (by decide +kernel)⟩
theorem lw_p98 : lw_okq (⟨"BranchTypesModel", "checks", "(I)V"⟩, 89) := ⟨⟨by decide +kernel, by decide +kernel⟩, List.mem_of_getElem? (i := 1167) (by decide +kernel), List.mem_of_getElem? (i := 1747) (by decide +kernel), List.mem_of_getElem? (i := 1748) (by decide +kernel)⟩
theorem lw_p99 : lw_okq (⟨"BranchTypesModel", "asks", "(II)V"⟩, 89) := ⟨⟨by decide +kernel, by decide +kernel⟩, List.mem_of_getElem? (i := 1167) (by decide +kernel), List.mem_of_getElem? (i := 1751) (by decide +kernel), List.mem_of_getElem? (i := 1752) (by decide +kernel)⟩
theorem lw_p100 : lw_okq (⟨"BranchTypesModel", "step", "()V"⟩, 89) := ⟨⟨by decide +kernel, by decide +kernel⟩, List.mem_of_getElem? (i := 1167) (by decide +kernel), List.mem_of_getElem? (i := 1755) (by decide +kernel), List.mem_of_getElem? (i := 1756) (by decide +kernel)⟩
theorem lw_p101 : lw_okq (⟨"BranchTypesModel", "sign", "(III)V"⟩, 89) := ⟨⟨by decide +kernel, by decide +kernel⟩, List.mem_of_getElem? (i := 1167) (by decide +kernel), List.mem_of_getElem? (i := 1759) (by decide +kernel), List.mem_of_getElem? (i := 1760) (by decide +kernel)⟩
theorem lw_p102 : lw_okq (⟨"BranchTypesModel", "signType", "(II)I"⟩, 89) := ⟨⟨by decide +kernel, by decide +kernel⟩, List.mem_of_getElem? (i := 1167) (by decide +kernel), List.mem_of_getElem? (i := 1763) (by decide +kernel), List.mem_of_getElem? (i := 1764) (by decide +kernel)⟩
theorem lw_p103 : lw_okq (⟨"BranchTypesModel", "unitesAt", "(III)V"⟩, 89) := ⟨⟨by decide +kernel, by decide +kernel⟩, List.mem_of_getElem? (i := 1167) (by decide +kernel), List.mem_of_getElem? (i := 1767) (by decide +kernel), List.mem_of_getElem? (i := 1768) (by decide +kernel)⟩
theorem lw_p104 : lw_okq (⟨"BranchTypesModel", "fails", "(II)V"⟩, 89) := ⟨⟨by decide +kernel, by decide +kernel⟩, List.mem_of_getElem? (i := 1167) (by decide +kernel), List.mem_of_getElem? (i := 1771) (by decide +kernel), List.mem_of_getElem? (i := 1772) (by decide +kernel)⟩
theorem lw_p105 : lw_okq (⟨"BranchTypesModel", "manyParts", "(I)I"⟩, 89) := ⟨⟨by decide +kernel, by decide +kernel⟩, List.mem_of_getElem? (i := 1167) (by decide +kernel), List.mem_of_getElem? (i := 1775) (by decide +kernel), List.mem_of_getElem? (i := 1776) (by decide +kernel)⟩
theorem lw_p106 : lw_okq (⟨"BranchTypesModel", "childOf", "(II)I"⟩, 89) := ⟨⟨by decide +kernel, by decide +kernel⟩, List.mem_of_getElem? (i := 1167) (by decide +kernel), List.mem_of_getElem? (i := 1779) (by decide +kernel), List.mem_of_getElem? (i := 1780) (by decide +kernel)⟩
theorem lw_p107 : lw_okq (⟨"BranchTypesModel", "gives", "(I)V"⟩, 89) := ⟨⟨by decide +kernel, by decide +kernel⟩, List.mem_of_getElem? (i := 1167) (by decide +kernel), List.mem_of_getElem? (i := 1783) (by decide +kernel), List.mem_of_getElem? (i := 1784) (by decide +kernel)⟩
theorem lw_p108 : lw_okq (⟨"BranchTypesModel", "choice", "(III)V"⟩, 89) := ⟨⟨by decide +kernel, by decide +kernel⟩, List.mem_of_getElem? (i := 1167) (by decide +kernel), List.mem_of_getElem? (i := 1787) (by decide +kernel), List.mem_of_getElem? (i := 1788) (by decide +kernel)⟩
theorem lw_p109 : lw_okq (⟨"BranchTypesModel", "truth", "()I"⟩, 89) := ⟨⟨by decide +kernel, by decide +kernel⟩, List.mem_of_getElem? (i := 1167) (by decide +kernel), List.mem_of_getElem? (i := 1791) (by decide +kernel), List.mem_of_getElem? (i := 1792) (by decide +kernel)⟩
theorem lw_p110 : lw_okq (⟨"BranchTypesModel", "match", "(III)V"⟩, 89) := ⟨⟨by decide +kernel, by decide +kernel⟩, List.mem_of_getElem? (i := 1167) (by decide +kernel), List.mem_of_getElem? (i := 1795) (by decide +kernel), List.mem_of_getElem? (i := 1796) (by decide +kernel)⟩
theorem lw_p111 : lw_okq (⟨"BranchTypesModel", "hasChild", "(II)Z"⟩, 89) := ⟨⟨by decide +kernel, by decide +kernel⟩, List.mem_of_getElem? (i := 1167) (by decide +kernel), List.mem_of_getElem? (i := 1799) (by decide +kernel), List.mem_of_getElem? (i := 1800) (by decide +kernel)⟩
def lw_privs_7 : List (MethodName × Nat) := [(⟨"BranchTypesModel", "readsCase", "(I)Z"⟩, 89), (⟨"BranchTypesModel", "apart", "()V"⟩, 89), (⟨"BranchTypesModel", "checks", "(I)V"⟩, 89), (⟨"BranchTypesModel", "asks", "(II)V"⟩, 89), (⟨"BranchTypesModel", "step", "()V"⟩, 89), (⟨"BranchTypesModel", "sign", "(III)V"⟩, 89), (⟨"BranchTypesModel", "signType", "(II)I"⟩, 89), (⟨"BranchTypesModel", "unitesAt", "(III)V"⟩, 89), (⟨"BranchTypesModel", "fails", "(II)V"⟩, 89), (⟨"BranchTypesModel", "manyParts", "(I)I"⟩, 89), (⟨"BranchTypesModel", "childOf", "(II)I"⟩, 89), (⟨"BranchTypesModel", "gives", "(I)V"⟩, 89), (⟨"BranchTypesModel", "choice", "(III)V"⟩, 89), (⟨"BranchTypesModel", "truth", "()I"⟩, 89), (⟨"BranchTypesModel", "match", "(III)V"⟩, 89), (⟨"BranchTypesModel", "hasChild", "(II)Z"⟩, 89)]
theorem lw_r7 : ∀ q ∈ lw_privs_7, lw_okq q := List.forall_mem_cons.mpr ⟨lw_p96, List.forall_mem_cons.mpr ⟨lw_p97, List.forall_mem_cons.mpr ⟨lw_p98, List.forall_mem_cons.mpr ⟨lw_p99, List.forall_mem_cons.mpr ⟨lw_p100, List.forall_mem_cons.mpr ⟨lw_p101, List.forall_mem_cons.mpr ⟨lw_p102, List.forall_mem_cons.mpr ⟨lw_p103, List.forall_mem_cons.mpr ⟨lw_p104, List.forall_mem_cons.mpr ⟨lw_p105, List.forall_mem_cons.mpr ⟨lw_p106, List.forall_mem_cons.mpr ⟨lw_p107, List.forall_mem_cons.mpr ⟨lw_p108, List.forall_mem_cons.mpr ⟨lw_p109, List.forall_mem_cons.mpr ⟨lw_p110, List.forall_mem_cons.mpr ⟨lw_p111, fun _ h => absurd h List.not_mem_nil⟩⟩⟩⟩⟩⟩⟩⟩⟩⟩⟩⟩⟩⟩⟩⟩
theorem lw_p112 : lw_okq (⟨"BranchTypesModel", "opensCase", "(IIII)V"⟩, 89) := ⟨⟨by decide +kernel, by decide +kernel⟩, List.mem_of_getElem? (i := 1167) (by decide +kernel), List.mem_of_getElem? (i := 1803) (by decide +kernel), List.mem_of_getElem? (i := 1804) (by decide +kernel)⟩
theorem lw_p113 : lw_okq (⟨"BranchTypesModel", "isLeftOut", "(II)Z"⟩, 89) := ⟨⟨by decide +kernel, by decide +kernel⟩, List.mem_of_getElem? (i := 1167) (by decide +kernel), List.mem_of_getElem? (i := 1807) (by decide +kernel), List.mem_of_getElem? (i := 1808) (by decide +kernel)⟩
theorem lw_p114 : lw_okq (⟨"BranchTypesModel", "pair", "(III)V"⟩, 89) := ⟨⟨by decide +kernel, by decide +kernel⟩, List.mem_of_getElem? (i := 1167) (by decide +kernel), List.mem_of_getElem? (i := 1811) (by decide +kernel), List.mem_of_getElem? (i := 1812) (by decide +kernel)⟩
theorem lw_p115 : lw_okq (⟨"BranchTypesModel", "other", "(III)V"⟩, 89) := ⟨⟨by decide +kernel, by decide +kernel⟩, List.mem_of_getElem? (i := 1167) (by decide +kernel), List.mem_of_getElem? (i := 1815) (by decide +kernel), List.mem_of_getElem? (i := 1816) (by decide +kernel)⟩
theorem lw_p116 : lw_okq (⟨"BranchTypesModel", "against", "(IIII)Z"⟩, 89) := ⟨⟨by decide +kernel, by decide +kernel⟩, List.mem_of_getElem? (i := 1167) (by decide +kernel), List.mem_of_getElem? (i := 1819) (by decide +kernel), List.mem_of_getElem? (i := 1820) (by decide +kernel)⟩
theorem lw_p117 : lw_okq (⟨"BranchTypesModel", "finds", "(II)V"⟩, 89) := ⟨⟨by decide +kernel, by decide +kernel⟩, List.mem_of_getElem? (i := 1167) (by decide +kernel), List.mem_of_getElem? (i := 1823) (by decide +kernel), List.mem_of_getElem? (i := 1824) (by decide +kernel)⟩
theorem lw_p118 : lw_okq (⟨"BranchTypesModel", "integer", "()I"⟩, 89) := ⟨⟨by decide +kernel, by decide +kernel⟩, List.mem_of_getElem? (i := 1167) (by decide +kernel), List.mem_of_getElem? (i := 1827) (by decide +kernel), List.mem_of_getElem? (i := 1828) (by decide +kernel)⟩
theorem lw_p119 : lw_okq (⟨"BranchTypesModel", "side", "(II)V"⟩, 89) := ⟨⟨by decide +kernel, by decide +kernel⟩, List.mem_of_getElem? (i := 1167) (by decide +kernel), List.mem_of_getElem? (i := 1831) (by decide +kernel), List.mem_of_getElem? (i := 1832) (by decide +kernel)⟩
theorem lw_p120 : lw_okq (⟨"BranchTypesModel", "together", "()V"⟩, 89) := ⟨⟨by decide +kernel, by decide +kernel⟩, List.mem_of_getElem? (i := 1167) (by decide +kernel), List.mem_of_getElem? (i := 1835) (by decide +kernel), List.mem_of_getElem? (i := 1836) (by decide +kernel)⟩
theorem lw_p121 : lw_okq (⟨"BranchTypesModel", "keepsBody", "(I)V"⟩, 89) := ⟨⟨by decide +kernel, by decide +kernel⟩, List.mem_of_getElem? (i := 1167) (by decide +kernel), List.mem_of_getElem? (i := 1839) (by decide +kernel), List.mem_of_getElem? (i := 1840) (by decide +kernel)⟩
theorem lw_p122 : lw_okq (⟨"BranchTypesModel", "tellsType", "(I)V"⟩, 89) := ⟨⟨by decide +kernel, by decide +kernel⟩, List.mem_of_getElem? (i := 1167) (by decide +kernel), List.mem_of_getElem? (i := 1847) (by decide +kernel), List.mem_of_getElem? (i := 1848) (by decide +kernel)⟩
theorem lw_p123 : lw_okq (⟨"BranchTypesModel", "tellsByte", "(I)V"⟩, 89) := ⟨⟨by decide +kernel, by decide +kernel⟩, List.mem_of_getElem? (i := 1167) (by decide +kernel), List.mem_of_getElem? (i := 1851) (by decide +kernel), List.mem_of_getElem? (i := 1852) (by decide +kernel)⟩
theorem lw_p124 : lw_okq (⟨"BranchTypesModel", "runBegins", "(II)V"⟩, 89) := ⟨⟨by decide +kernel, by decide +kernel⟩, List.mem_of_getElem? (i := 1167) (by decide +kernel), List.mem_of_getElem? (i := 1855) (by decide +kernel), List.mem_of_getElem? (i := 1856) (by decide +kernel)⟩
theorem lw_p125 : lw_okq (⟨"BranchTypesModel", "runStep", "()V"⟩, 89) := ⟨⟨by decide +kernel, by decide +kernel⟩, List.mem_of_getElem? (i := 1167) (by decide +kernel), List.mem_of_getElem? (i := 1859) (by decide +kernel), List.mem_of_getElem? (i := 1860) (by decide +kernel)⟩
theorem lw_p126 : lw_okq (⟨"BranchTypesModel", "runGives", "(I)V"⟩, 89) := ⟨⟨by decide +kernel, by decide +kernel⟩, List.mem_of_getElem? (i := 1167) (by decide +kernel), List.mem_of_getElem? (i := 1863) (by decide +kernel), List.mem_of_getElem? (i := 1864) (by decide +kernel)⟩
theorem lw_p127 : lw_okq (⟨"BranchTypesModel", "runCase", "(II)V"⟩, 89) := ⟨⟨by decide +kernel, by decide +kernel⟩, List.mem_of_getElem? (i := 1167) (by decide +kernel), List.mem_of_getElem? (i := 1867) (by decide +kernel), List.mem_of_getElem? (i := 1868) (by decide +kernel)⟩
def lw_privs_8 : List (MethodName × Nat) := [(⟨"BranchTypesModel", "opensCase", "(IIII)V"⟩, 89), (⟨"BranchTypesModel", "isLeftOut", "(II)Z"⟩, 89), (⟨"BranchTypesModel", "pair", "(III)V"⟩, 89), (⟨"BranchTypesModel", "other", "(III)V"⟩, 89), (⟨"BranchTypesModel", "against", "(IIII)Z"⟩, 89), (⟨"BranchTypesModel", "finds", "(II)V"⟩, 89), (⟨"BranchTypesModel", "integer", "()I"⟩, 89), (⟨"BranchTypesModel", "side", "(II)V"⟩, 89), (⟨"BranchTypesModel", "together", "()V"⟩, 89), (⟨"BranchTypesModel", "keepsBody", "(I)V"⟩, 89), (⟨"BranchTypesModel", "tellsType", "(I)V"⟩, 89), (⟨"BranchTypesModel", "tellsByte", "(I)V"⟩, 89), (⟨"BranchTypesModel", "runBegins", "(II)V"⟩, 89), (⟨"BranchTypesModel", "runStep", "()V"⟩, 89), (⟨"BranchTypesModel", "runGives", "(I)V"⟩, 89), (⟨"BranchTypesModel", "runCase", "(II)V"⟩, 89)]
theorem lw_r8 : ∀ q ∈ lw_privs_8, lw_okq q := List.forall_mem_cons.mpr ⟨lw_p112, List.forall_mem_cons.mpr ⟨lw_p113, List.forall_mem_cons.mpr ⟨lw_p114, List.forall_mem_cons.mpr ⟨lw_p115, List.forall_mem_cons.mpr ⟨lw_p116, List.forall_mem_cons.mpr ⟨lw_p117, List.forall_mem_cons.mpr ⟨lw_p118, List.forall_mem_cons.mpr ⟨lw_p119, List.forall_mem_cons.mpr ⟨lw_p120, List.forall_mem_cons.mpr ⟨lw_p121, List.forall_mem_cons.mpr ⟨lw_p122, List.forall_mem_cons.mpr ⟨lw_p123, List.forall_mem_cons.mpr ⟨lw_p124, List.forall_mem_cons.mpr ⟨lw_p125, List.forall_mem_cons.mpr ⟨lw_p126, List.forall_mem_cons.mpr ⟨lw_p127, fun _ h => absurd h List.not_mem_nil⟩⟩⟩⟩⟩⟩⟩⟩⟩⟩⟩⟩⟩⟩⟩⟩
theorem lw_p128 : lw_okq (⟨"BranchTypesModel", "runBody", "(II)V"⟩, 89) := ⟨⟨by decide +kernel, by decide +kernel⟩, List.mem_of_getElem? (i := 1167) (by decide +kernel), List.mem_of_getElem? (i := 1871) (by decide +kernel), List.mem_of_getElem? (i := 1872) (by decide +kernel)⟩
theorem lw_p129 : lw_okq (⟨"BranchTypesModel", "leaf", "(II)I"⟩, 89) := ⟨⟨by decide +kernel, by decide +kernel⟩, List.mem_of_getElem? (i := 1167) (by decide +kernel), List.mem_of_getElem? (i := 1875) (by decide +kernel), List.mem_of_getElem? (i := 1876) (by decide +kernel)⟩
theorem lw_p130 : lw_okq (⟨"BranchTypesModel", "value", "(II)I"⟩, 89) := ⟨⟨by decide +kernel, by decide +kernel⟩, List.mem_of_getElem? (i := 1167) (by decide +kernel), List.mem_of_getElem? (i := 1879) (by decide +kernel), List.mem_of_getElem? (i := 1880) (by decide +kernel)⟩
theorem lw_p131 : lw_okq (⟨"BranchTypesModel", "whole", "(II)I"⟩, 89) := ⟨⟨by decide +kernel, by decide +kernel⟩, List.mem_of_getElem? (i := 1167) (by decide +kernel), List.mem_of_getElem? (i := 1883) (by decide +kernel), List.mem_of_getElem? (i := 1884) (by decide +kernel)⟩
theorem lw_p132 : lw_okq (⟨"BranchTypesModel", "ofTwo", "(III)I"⟩, 89) := ⟨⟨by decide +kernel, by decide +kernel⟩, List.mem_of_getElem? (i := 1167) (by decide +kernel), List.mem_of_getElem? (i := 1887) (by decide +kernel), List.mem_of_getElem? (i := 1888) (by decide +kernel)⟩
theorem lw_p133 : lw_okq (⟨"BranchTypesModel", "ends", "()I"⟩, 89) := ⟨⟨by decide +kernel, by decide +kernel⟩, List.mem_of_getElem? (i := 1167) (by decide +kernel), List.mem_of_getElem? (i := 1891) (by decide +kernel), List.mem_of_getElem? (i := 1892) (by decide +kernel)⟩
theorem lw_p134 : lw_okq (⟨"BranchTypesModel", "tellsValue", "(I)V"⟩, 89) := ⟨⟨by decide +kernel, by decide +kernel⟩, List.mem_of_getElem? (i := 1167) (by decide +kernel), List.mem_of_getElem? (i := 1895) (by decide +kernel), List.mem_of_getElem? (i := 1896) (by decide +kernel)⟩
theorem lw_p135 : lw_okq (⟨"BranchTypesModel", "tellsNumber", "(I)V"⟩, 89) := ⟨⟨by decide +kernel, by decide +kernel⟩, List.mem_of_getElem? (i := 1167) (by decide +kernel), List.mem_of_getElem? (i := 1899) (by decide +kernel), List.mem_of_getElem? (i := 1900) (by decide +kernel)⟩
theorem lw_p136 : lw_okq (⟨"BranchTypesModel", "houseByte", "(I)I"⟩, 89) := ⟨⟨by decide +kernel, by decide +kernel⟩, List.mem_of_getElem? (i := 1167) (by decide +kernel), List.mem_of_getElem? (i := 1908) (by decide +kernel), List.mem_of_getElem? (i := 1909) (by decide +kernel)⟩
theorem lw_p137 : lw_okq (⟨"BranchTypesModel", "declaresFrom", "(I)I"⟩, 89) := ⟨⟨by decide +kernel, by decide +kernel⟩, List.mem_of_getElem? (i := 1167) (by decide +kernel), List.mem_of_getElem? (i := 1913) (by decide +kernel), List.mem_of_getElem? (i := 1914) (by decide +kernel)⟩
theorem lw_p138 : lw_okq (⟨"BranchTypesModel", "toldOf", "(I)I"⟩, 89) := ⟨⟨by decide +kernel, by decide +kernel⟩, List.mem_of_getElem? (i := 1167) (by decide +kernel), List.mem_of_getElem? (i := 1945) (by decide +kernel), List.mem_of_getElem? (i := 1946) (by decide +kernel)⟩
def lw_privs_9 : List (MethodName × Nat) := [(⟨"BranchTypesModel", "runBody", "(II)V"⟩, 89), (⟨"BranchTypesModel", "leaf", "(II)I"⟩, 89), (⟨"BranchTypesModel", "value", "(II)I"⟩, 89), (⟨"BranchTypesModel", "whole", "(II)I"⟩, 89), (⟨"BranchTypesModel", "ofTwo", "(III)I"⟩, 89), (⟨"BranchTypesModel", "ends", "()I"⟩, 89), (⟨"BranchTypesModel", "tellsValue", "(I)V"⟩, 89), (⟨"BranchTypesModel", "tellsNumber", "(I)V"⟩, 89), (⟨"BranchTypesModel", "houseByte", "(I)I"⟩, 89), (⟨"BranchTypesModel", "declaresFrom", "(I)I"⟩, 89), (⟨"BranchTypesModel", "toldOf", "(I)I"⟩, 89)]
theorem lw_r9 : ∀ q ∈ lw_privs_9, lw_okq q := List.forall_mem_cons.mpr ⟨lw_p128, List.forall_mem_cons.mpr ⟨lw_p129, List.forall_mem_cons.mpr ⟨lw_p130, List.forall_mem_cons.mpr ⟨lw_p131, List.forall_mem_cons.mpr ⟨lw_p132, List.forall_mem_cons.mpr ⟨lw_p133, List.forall_mem_cons.mpr ⟨lw_p134, List.forall_mem_cons.mpr ⟨lw_p135, List.forall_mem_cons.mpr ⟨lw_p136, List.forall_mem_cons.mpr ⟨lw_p137, List.forall_mem_cons.mpr ⟨lw_p138, fun _ h => absurd h List.not_mem_nil⟩⟩⟩⟩⟩⟩⟩⟩⟩⟩⟩
def lw_privs : List (MethodName × Nat) := lw_privs_1 ++ (lw_privs_2 ++ (lw_privs_3 ++ (lw_privs_4 ++ (lw_privs_5 ++ (lw_privs_6 ++ (lw_privs_7 ++ (lw_privs_8 ++ (lw_privs_9))))))))
def lw_tbl : List Cond := k2_sels lw_privs ++ tables_1
theorem lw_privs_ok : ∀ q ∈ lw_privs, lw_okq q := by
  show ∀ q ∈ lw_privs_1 ++ (lw_privs_2 ++ (lw_privs_3 ++ (lw_privs_4 ++ (lw_privs_5 ++ (lw_privs_6 ++ (lw_privs_7 ++ (lw_privs_8 ++ (lw_privs_9)))))))), lw_okq q
  exact List.forall_mem_append.mpr ⟨lw_r1, List.forall_mem_append.mpr ⟨lw_r2, List.forall_mem_append.mpr ⟨lw_r3, List.forall_mem_append.mpr ⟨lw_r4, List.forall_mem_append.mpr ⟨lw_r5, List.forall_mem_append.mpr ⟨lw_r6, List.forall_mem_append.mpr ⟨lw_r7, List.forall_mem_append.mpr ⟨lw_r8, lw_r9⟩⟩⟩⟩⟩⟩⟩⟩
def RX0 : String := "BranchTypes$Checker"
def TX0 : u_T := fun k => match k with
  | 0 => ("BranchTypes$Checker", "program", "LBranchTypes$Program;", true)
  | 1 => ("BranchTypes$Checker", "world", "LBranchTypes$World;", true)
  | 2 => ("BranchTypes$Checker", "scope", "[I", true)
  | 3 => ("BranchTypes$Checker", "held", "[I", true)
  | 4 => ("BranchTypes$Checker", "stack", "[I", true)
  | 5 => ("BranchTypes$Checker", "scopeSize", "I", false)
  | 6 => ("BranchTypes$Checker", "heldSize", "I", false)
  | 7 => ("BranchTypes$Checker", "code", "LBranchTypes$Code;", false)
  | 8 => ("BranchTypes$Checker", "integer", "I", false)
  | _ => ("BranchTypes$Checker", "truth", "I", false)
def tyX0 : Nat → FieldType := fun k => match k with
  | 0 => .object "BranchTypes$Program"
  | 1 => .object "BranchTypes$World"
  | 2 => .array .int
  | 3 => .array .int
  | 4 => .array .int
  | 5 => .int
  | 6 => .int
  | 7 => .object "BranchTypes$Code"
  | 8 => .int
  | _ => .int
abbrev wsX00 : List Cond := u_ws RX0 TX0 10
theorem nmX0 : ∀ a, a < 10 → ∀ b, b < 10 → a ≠ b → (TX0 a).2.1 ≠ (TX0 b).2.1 := by decide +kernel
theorem tyX0_ok : ∀ k, k < 10 → parseFieldDescriptor (TX0 k).2.2.1 = some (tyX0 k) := by decide +kernel
def RX1 : String := "BranchTypes$Code"
def TX1 : u_T := fun k => match k with
  | 0 => ("BranchTypes$Code", "bytes", "[I", true)
  | 1 => ("BranchTypes$Code", "ends", "[I", true)
  | 2 => ("BranchTypes$Code", "length", "I", false)
  | 3 => ("BranchTypes$Code", "expressions", "I", false)
  | 4 => ("BranchTypes$Code", "faultAt", "I", false)
  | _ => ("BranchTypes$Code", "faultReason", "I", false)
def tyX1 : Nat → FieldType := fun k => match k with
  | 0 => .array .int
  | 1 => .array .int
  | 2 => .int
  | 3 => .int
  | 4 => .int
  | _ => .int
abbrev wsX10 : List Cond := u_ws RX1 TX1 6
theorem nmX1 : ∀ a, a < 6 → ∀ b, b < 6 → a ≠ b → (TX1 a).2.1 ≠ (TX1 b).2.1 := by decide +kernel
theorem tyX1_ok : ∀ k, k < 6 → parseFieldDescriptor (TX1 k).2.2.1 = some (tyX1 k) := by decide +kernel
def RX2 : String := "BranchTypes$Kept"
def TX2 : u_T := fun k => match k with
  | 0 => ("BranchTypes$Kept", "bytes", "[I", true)
  | _ => ("BranchTypes$Kept", "count", "I", false)
def tyX2 : Nat → FieldType := fun k => match k with
  | 0 => .array .int
  | _ => .int
abbrev wsX20 : List Cond := u_ws RX2 TX2 2
theorem nmX2 : ∀ a, a < 2 → ∀ b, b < 2 → a ≠ b → (TX2 a).2.1 ≠ (TX2 b).2.1 := by decide +kernel
theorem tyX2_ok : ∀ k, k < 2 → parseFieldDescriptor (TX2 k).2.2.1 = some (tyX2 k) := by decide +kernel
def RX3 : String := "BranchTypes$Machine"
def TX3 : u_T := fun k => match k with
  | 0 => ("BranchTypes$Machine", "program", "LBranchTypes$Program;", true)
  | 1 => ("BranchTypes$Machine", "kind", "[I", true)
  | 2 => ("BranchTypes$Machine", "width", "[I", true)
  | 3 => ("BranchTypes$Machine", "content", "[I", true)
  | 4 => ("BranchTypes$Machine", "scope", "[I", true)
  | 5 => ("BranchTypes$Machine", "held", "[I", true)
  | 6 => ("BranchTypes$Machine", "stack", "[I", true)
  | 7 => ("BranchTypes$Machine", "values", "I", false)
  | 8 => ("BranchTypes$Machine", "scopeSize", "I", false)
  | 9 => ("BranchTypes$Machine", "heldSize", "I", false)
  | 10 => ("BranchTypes$Machine", "steps", "I", false)
  | _ => ("BranchTypes$Machine", "deepest", "I", false)
def tyX3 : Nat → FieldType := fun k => match k with
  | 0 => .object "BranchTypes$Program"
  | 1 => .array .int
  | 2 => .array .int
  | 3 => .array .int
  | 4 => .array .int
  | 5 => .array .int
  | 6 => .array .int
  | 7 => .int
  | 8 => .int
  | 9 => .int
  | 10 => .int
  | _ => .int
abbrev wsX30 : List Cond := u_ws RX3 TX3 12
theorem nmX3 : ∀ a, a < 12 → ∀ b, b < 12 → a ≠ b → (TX3 a).2.1 ≠ (TX3 b).2.1 := by decide +kernel
theorem tyX3_ok : ∀ k, k < 12 → parseFieldDescriptor (TX3 k).2.2.1 = some (tyX3 k) := by decide +kernel
def RX4 : String := "BranchTypes$Program"
def TX4 : u_T := fun k => match k with
  | 0 => ("BranchTypes$Program", "constructors", "[LBranchTypes$Signature;", true)
  | 1 => ("BranchTypes$Program", "functions", "[LBranchTypes$Signature;", true)
  | 2 => ("BranchTypes$Program", "bodyCodes", "[LBranchTypes$Code;", true)
  | 3 => ("BranchTypes$Program", "hasBody", "[Z", true)
  | 4 => ("BranchTypes$Program", "constructorCount", "I", false)
  | _ => ("BranchTypes$Program", "functionCount", "I", false)
def tyX4 : Nat → FieldType := fun k => match k with
  | 0 => .array (.object "BranchTypes$Signature")
  | 1 => .array (.object "BranchTypes$Signature")
  | 2 => .array (.object "BranchTypes$Code")
  | 3 => .array .boolean
  | 4 => .int
  | _ => .int
abbrev wsX40 : List Cond := u_ws RX4 TX4 6
theorem nmX4 : ∀ a, a < 6 → ∀ b, b < 6 → a ≠ b → (TX4 a).2.1 ≠ (TX4 b).2.1 := by decide +kernel
theorem tyX4_ok : ∀ k, k < 6 → parseFieldDescriptor (TX4 k).2.2.1 = some (tyX4 k) := by decide +kernel
def RX5 : String := "BranchTypes$Reader"
def TX5 : u_T := fun k => match k with
  | 0 => ("BranchTypes$Reader", "program", "LBranchTypes$Program;", true)
  | 1 => ("BranchTypes$Reader", "code", "LBranchTypes$Code;", false)
  | _ => ("BranchTypes$Reader", "weight", "I", false)
def tyX5 : Nat → FieldType := fun k => match k with
  | 0 => .object "BranchTypes$Program"
  | 1 => .object "BranchTypes$Code"
  | _ => .int
abbrev wsX50 : List Cond := u_ws RX5 TX5 3
theorem nmX5 : ∀ a, a < 3 → ∀ b, b < 3 → a ≠ b → (TX5 a).2.1 ≠ (TX5 b).2.1 := by decide +kernel
theorem tyX5_ok : ∀ k, k < 3 → parseFieldDescriptor (TX5 k).2.2.1 = some (tyX5 k) := by decide +kernel
def RX6 : String := "BranchTypes$Signature"
def TX6 : u_T := fun k => match k with
  | 0 => ("BranchTypes$Signature", "bytes", "[I", true)
  | 1 => ("BranchTypes$Signature", "length", "I", false)
  | 2 => ("BranchTypes$Signature", "parts", "I", false)
  | 3 => ("BranchTypes$Signature", "variables", "I", false)
  | _ => ("BranchTypes$Signature", "family", "I", false)
def tyX6 : Nat → FieldType := fun k => match k with
  | 0 => .array .int
  | 1 => .int
  | 2 => .int
  | 3 => .int
  | _ => .int
abbrev wsX60 : List Cond := u_ws RX6 TX6 5
theorem nmX6 : ∀ a, a < 5 → ∀ b, b < 5 → a ≠ b → (TX6 a).2.1 ≠ (TX6 b).2.1 := by decide +kernel
theorem tyX6_ok : ∀ k, k < 5 → parseFieldDescriptor (TX6 k).2.2.1 = some (tyX6 k) := by decide +kernel
def RX7 : String := "BranchTypes$Types"
def TX7 : u_T := fun k => match k with
  | 0 => ("BranchTypes$Types", "head", "[I", true)
  | 1 => ("BranchTypes$Types", "first", "[I", true)
  | 2 => ("BranchTypes$Types", "second", "[I", true)
  | 3 => ("BranchTypes$Types", "born", "[I", true)
  | 4 => ("BranchTypes$Types", "parent", "[I", true)
  | 5 => ("BranchTypes$Types", "size", "[I", true)
  | 6 => ("BranchTypes$Types", "lead", "[I", true)
  | 7 => ("BranchTypes$Types", "lowest", "[I", true)
  | 8 => ("BranchTypes$Types", "linked", "[I", true)
  | 9 => ("BranchTypes$Types", "oldLead", "[I", true)
  | 10 => ("BranchTypes$Types", "oldLowest", "[I", true)
  | 11 => ("BranchTypes$Types", "countBefore", "[I", true)
  | 12 => ("BranchTypes$Types", "linksBefore", "[I", true)
  | 13 => ("BranchTypes$Types", "count", "I", false)
  | 14 => ("BranchTypes$Types", "links", "I", false)
  | _ => ("BranchTypes$Types", "depth", "I", false)
def tyX7 : Nat → FieldType := fun k => match k with
  | 0 => .array .int
  | 1 => .array .int
  | 2 => .array .int
  | 3 => .array .int
  | 4 => .array .int
  | 5 => .array .int
  | 6 => .array .int
  | 7 => .array .int
  | 8 => .array .int
  | 9 => .array .int
  | 10 => .array .int
  | 11 => .array .int
  | 12 => .array .int
  | 13 => .int
  | 14 => .int
  | _ => .int
abbrev wsX70 : List Cond := u_ws RX7 TX7 16
theorem nmX7 : ∀ a, a < 16 → ∀ b, b < 16 → a ≠ b → (TX7 a).2.1 ≠ (TX7 b).2.1 := by decide +kernel
theorem tyX7_ok : ∀ k, k < 16 → parseFieldDescriptor (TX7 k).2.2.1 = some (tyX7 k) := by decide +kernel
def RX8 : String := "BranchTypes$Unifier"
def TX8 : u_T := fun k => match k with
  | 0 => ("BranchTypes$Unifier", "types", "LBranchTypes$Types;", true)
  | 1 => ("BranchTypes$Unifier", "walk", "LBranchTypes$Walk;", true)
  | 2 => ("BranchTypes$Unifier", "left", "[I", true)
  | 3 => ("BranchTypes$Unifier", "right", "[I", true)
  | 4 => ("BranchTypes$Unifier", "bucket", "[I", true)
  | 5 => ("BranchTypes$Unifier", "next", "[I", true)
  | 6 => ("BranchTypes$Unifier", "pending", "I", false)
  | _ => ("BranchTypes$Unifier", "touched", "Z", false)
def tyX8 : Nat → FieldType := fun k => match k with
  | 0 => .object "BranchTypes$Types"
  | 1 => .object "BranchTypes$Walk"
  | 2 => .array .int
  | 3 => .array .int
  | 4 => .array .int
  | 5 => .array .int
  | 6 => .int
  | _ => .boolean
abbrev wsX80 : List Cond := u_ws RX8 TX8 8
theorem nmX8 : ∀ a, a < 8 → ∀ b, b < 8 → a ≠ b → (TX8 a).2.1 ≠ (TX8 b).2.1 := by decide +kernel
theorem tyX8_ok : ∀ k, k < 8 → parseFieldDescriptor (TX8 k).2.2.1 = some (tyX8 k) := by decide +kernel
def RX9 : String := "BranchTypes$Walk"
def TX9 : u_T := fun k => match k with
  | 0 => ("BranchTypes$Walk", "types", "LBranchTypes$Types;", true)
  | 1 => ("BranchTypes$Walk", "state", "[I", true)
  | 2 => ("BranchTypes$Walk", "path", "[I", true)
  | 3 => ("BranchTypes$Walk", "turn", "[I", true)
  | 4 => ("BranchTypes$Walk", "order", "[I", true)
  | 5 => ("BranchTypes$Walk", "size", "[I", true)
  | _ => ("BranchTypes$Walk", "walked", "I", false)
def tyX9 : Nat → FieldType := fun k => match k with
  | 0 => .object "BranchTypes$Types"
  | 1 => .array .int
  | 2 => .array .int
  | 3 => .array .int
  | 4 => .array .int
  | 5 => .array .int
  | _ => .int
abbrev wsX90 : List Cond := u_ws RX9 TX9 7
theorem nmX9 : ∀ a, a < 7 → ∀ b, b < 7 → a ≠ b → (TX9 a).2.1 ≠ (TX9 b).2.1 := by decide +kernel
theorem tyX9_ok : ∀ k, k < 7 → parseFieldDescriptor (TX9 k).2.2.1 = some (tyX9 k) := by decide +kernel
def RX10 : String := "BranchTypes$World"
def TX10 : u_T := fun k => match k with
  | 0 => ("BranchTypes$World", "types", "LBranchTypes$Types;", true)
  | 1 => ("BranchTypes$World", "walk", "LBranchTypes$Walk;", true)
  | 2 => ("BranchTypes$World", "unifier", "LBranchTypes$Unifier;", true)
  | 3 => ("BranchTypes$World", "variables", "[I", true)
  | 4 => ("BranchTypes$World", "built", "[I", true)
  | _ => ("BranchTypes$World", "top", "I", false)
def tyX10 : Nat → FieldType := fun k => match k with
  | 0 => .object "BranchTypes$Types"
  | 1 => .object "BranchTypes$Walk"
  | 2 => .object "BranchTypes$Unifier"
  | 3 => .array .int
  | 4 => .array .int
  | _ => .int
abbrev wsX100 : List Cond := u_ws RX10 TX10 6
theorem nmX10 : ∀ a, a < 6 → ∀ b, b < 6 → a ≠ b → (TX10 a).2.1 ≠ (TX10 b).2.1 := by decide +kernel
theorem tyX10_ok : ∀ k, k < 6 → parseFieldDescriptor (TX10 k).2.2.1 = some (tyX10 k) := by decide +kernel
def RX11 : String := "BranchTypes"
def TX11 : u_T := fun k => match k with
  | 0 => ("BranchTypes", "bench", "LBranchTypes$World;", true)
  | 1 => ("BranchTypes", "text", "LBranchTypes$Code;", true)
  | 2 => ("BranchTypes", "draft", "LBranchTypes$Code;", true)
  | 3 => ("BranchTypes", "program", "LBranchTypes$Program;", true)
  | 4 => ("BranchTypes", "reader", "LBranchTypes$Reader;", true)
  | 5 => ("BranchTypes", "checker", "LBranchTypes$Checker;", true)
  | 6 => ("BranchTypes", "machine", "LBranchTypes$Machine;", true)
  | 7 => ("BranchTypes", "ranType", "LBranchTypes$Kept;", true)
  | 8 => ("BranchTypes", "ranValue", "LBranchTypes$Kept;", true)
  | 9 => ("BranchTypes", "ranSteps", "I", false)
  | 10 => ("BranchTypes", "ranNesting", "I", false)
  | 11 => ("BranchTypes", "latestReason", "I", false)
  | 12 => ("BranchTypes", "badCount", "I", false)
  | 13 => ("BranchTypes", "noCount", "I", false)
  | _ => ("BranchTypes", "fullCount", "I", false)
def tyX11 : Nat → FieldType := fun k => match k with
  | 0 => .object "BranchTypes$World"
  | 1 => .object "BranchTypes$Code"
  | 2 => .object "BranchTypes$Code"
  | 3 => .object "BranchTypes$Program"
  | 4 => .object "BranchTypes$Reader"
  | 5 => .object "BranchTypes$Checker"
  | 6 => .object "BranchTypes$Machine"
  | 7 => .object "BranchTypes$Kept"
  | 8 => .object "BranchTypes$Kept"
  | 9 => .int
  | 10 => .int
  | 11 => .int
  | 12 => .int
  | 13 => .int
  | _ => .int
abbrev wsX110 : List Cond := u_ws RX11 TX11 15
theorem nmX11 : ∀ a, a < 15 → ∀ b, b < 15 → a ≠ b → (TX11 a).2.1 ≠ (TX11 b).2.1 := by decide +kernel
theorem tyX11_ok : ∀ k, k < 15 → parseFieldDescriptor (TX11 k).2.2.1 = some (tyX11 k) := by decide +kernel
def RX12 : String := "BranchTypesModel"
def TX12 : u_T := fun k => match k with
  | 0 => ("BranchTypesModel", "houses", "[J", true)
  | 1 => ("BranchTypesModel", "head", "[I", true)
  | 2 => ("BranchTypesModel", "partA", "[I", true)
  | 3 => ("BranchTypesModel", "partB", "[I", true)
  | 4 => ("BranchTypesModel", "deepOf", "[I", true)
  | 5 => ("BranchTypesModel", "cls", "[I", true)
  | 6 => ("BranchTypesModel", "shape", "[I", true)
  | 7 => ("BranchTypesModel", "was", "[I", true)
  | 8 => ("BranchTypesModel", "fast", "[I", true)
  | 9 => ("BranchTypesModel", "value", "[I", true)
  | 10 => ("BranchTypesModel", "equalA", "[I", true)
  | 11 => ("BranchTypesModel", "equalB", "[I", true)
  | 12 => ("BranchTypesModel", "typeMark", "[I", true)
  | 13 => ("BranchTypesModel", "equalMark", "[I", true)
  | 14 => ("BranchTypesModel", "low", "I", false)
  | 15 => ("BranchTypesModel", "high", "I", false)
  | 16 => ("BranchTypesModel", "equalLow", "I", false)
  | 17 => ("BranchTypesModel", "equalHigh", "I", false)
  | 18 => ("BranchTypesModel", "deep", "I", false)
  | 19 => ("BranchTypesModel", "markLow", "I", false)
  | 20 => ("BranchTypesModel", "benchHigh", "I", false)
  | 21 => ("BranchTypesModel", "benchEqual", "I", false)
  | 22 => ("BranchTypesModel", "benchDeep", "I", false)
  | 23 => ("BranchTypesModel", "refused", "[I", true)
  | 24 => ("BranchTypesModel", "why", "I", false)
  | 25 => ("BranchTypesModel", "letters", "[I", true)
  | 26 => ("BranchTypesModel", "length", "[I", true)
  | 27 => ("BranchTypesModel", "carries", "[I", true)
  | 28 => ("BranchTypesModel", "variables", "[I", true)
  | 29 => ("BranchTypesModel", "familyOf", "[I", true)
  | 30 => ("BranchTypesModel", "constructors", "I", false)
  | 31 => ("BranchTypesModel", "functions", "I", false)
  | 32 => ("BranchTypesModel", "text", "[I", true)
  | 33 => ("BranchTypesModel", "typed", "I", false)
  | 34 => ("BranchTypesModel", "line", "[I", true)
  | 35 => ("BranchTypesModel", "lined", "I", false)
  | 36 => ("BranchTypesModel", "at", "I", false)
  | 37 => ("BranchTypesModel", "whyNow", "I", false)
  | 38 => ("BranchTypesModel", "telling", "[I", true)
  | 39 => ("BranchTypesModel", "variable", "[I", true)
  | 40 => ("BranchTypesModel", "pile", "[I", true)
  | 41 => ("BranchTypesModel", "op", "[I", true)
  | 42 => ("BranchTypesModel", "place", "[I", true)
  | 43 => ("BranchTypesModel", "figure", "[I", true)
  | 44 => ("BranchTypesModel", "child", "[I", true)
  | 45 => ("BranchTypesModel", "next", "[I", true)
  | 46 => ("BranchTypesModel", "force", "[I", true)
  | 47 => ("BranchTypesModel", "manyIn", "[I", true)
  | 48 => ("BranchTypesModel", "nodes", "I", false)
  | 49 => ("BranchTypesModel", "many", "I", false)
  | 50 => ("BranchTypesModel", "load", "I", false)
  | 51 => ("BranchTypesModel", "underNode", "[I", true)
  | 52 => ("BranchTypesModel", "wanted", "[I", true)
  | 53 => ("BranchTypesModel", "inForce", "[I", true)
  | 54 => ("BranchTypesModel", "lastOf", "[I", true)
  | 55 => ("BranchTypesModel", "begun", "[Z", true)
  | 56 => ("BranchTypesModel", "under", "I", false)
  | 57 => ("BranchTypesModel", "askNode", "[I", true)
  | 58 => ("BranchTypesModel", "askType", "[I", true)
  | 59 => ("BranchTypesModel", "askStage", "[I", true)
  | 60 => ("BranchTypesModel", "askKept", "[I", true)
  | 61 => ("BranchTypesModel", "askParts", "[I", true)
  | 62 => ("BranchTypesModel", "asks", "I", false)
  | 63 => ("BranchTypesModel", "got", "I", false)
  | 64 => ("BranchTypesModel", "letterType", "[I", true)
  | 65 => ("BranchTypesModel", "faultAt", "I", false)
  | 66 => ("BranchTypesModel", "faultWhy", "I", false)
  | 67 => ("BranchTypesModel", "kind", "[I", true)
  | 68 => ("BranchTypesModel", "number", "[I", true)
  | 69 => ("BranchTypesModel", "holdA", "[I", true)
  | 70 => ("BranchTypesModel", "holdB", "[I", true)
  | 71 => ("BranchTypesModel", "holdC", "[I", true)
  | 72 => ("BranchTypesModel", "values", "I", false)
  | 73 => ("BranchTypesModel", "runNode", "[I", true)
  | 74 => ("BranchTypesModel", "runBase", "[I", true)
  | 75 => ("BranchTypesModel", "runStage", "[I", true)
  | 76 => ("BranchTypesModel", "runValue", "[I", true)
  | 77 => ("BranchTypesModel", "letterValue", "[I", true)
  | 78 => ("BranchTypesModel", "runs", "I", false)
  | 79 => ("BranchTypesModel", "last", "I", false)
  | 80 => ("BranchTypesModel", "steps", "I", false)
  | 81 => ("BranchTypesModel", "deepest", "I", false)
  | 82 => ("BranchTypesModel", "ending", "I", false)
  | 83 => ("BranchTypesModel", "ran", "[I", true)
  | 84 => ("BranchTypesModel", "typeText", "[I", true)
  | 85 => ("BranchTypesModel", "valueText", "[I", true)
  | 86 => ("BranchTypesModel", "out", "[I", true)
  | 87 => ("BranchTypesModel", "outs", "I", false)
  | _ => ("BranchTypesModel", "toTell", "[I", true)
def tyX12 : Nat → FieldType := fun k => match k with
  | 0 => .array .long
  | 1 => .array .int
  | 2 => .array .int
  | 3 => .array .int
  | 4 => .array .int
  | 5 => .array .int
  | 6 => .array .int
  | 7 => .array .int
  | 8 => .array .int
  | 9 => .array .int
  | 10 => .array .int
  | 11 => .array .int
  | 12 => .array .int
  | 13 => .array .int
  | 14 => .int
  | 15 => .int
  | 16 => .int
  | 17 => .int
  | 18 => .int
  | 19 => .int
  | 20 => .int
  | 21 => .int
  | 22 => .int
  | 23 => .array .int
  | 24 => .int
  | 25 => .array .int
  | 26 => .array .int
  | 27 => .array .int
  | 28 => .array .int
  | 29 => .array .int
  | 30 => .int
  | 31 => .int
  | 32 => .array .int
  | 33 => .int
  | 34 => .array .int
  | 35 => .int
  | 36 => .int
  | 37 => .int
  | 38 => .array .int
  | 39 => .array .int
  | 40 => .array .int
  | 41 => .array .int
  | 42 => .array .int
  | 43 => .array .int
  | 44 => .array .int
  | 45 => .array .int
  | 46 => .array .int
  | 47 => .array .int
  | 48 => .int
  | 49 => .int
  | 50 => .int
  | 51 => .array .int
  | 52 => .array .int
  | 53 => .array .int
  | 54 => .array .int
  | 55 => .array .boolean
  | 56 => .int
  | 57 => .array .int
  | 58 => .array .int
  | 59 => .array .int
  | 60 => .array .int
  | 61 => .array .int
  | 62 => .int
  | 63 => .int
  | 64 => .array .int
  | 65 => .int
  | 66 => .int
  | 67 => .array .int
  | 68 => .array .int
  | 69 => .array .int
  | 70 => .array .int
  | 71 => .array .int
  | 72 => .int
  | 73 => .array .int
  | 74 => .array .int
  | 75 => .array .int
  | 76 => .array .int
  | 77 => .array .int
  | 78 => .int
  | 79 => .int
  | 80 => .int
  | 81 => .int
  | 82 => .int
  | 83 => .array .int
  | 84 => .array .int
  | 85 => .array .int
  | 86 => .array .int
  | 87 => .int
  | _ => .array .int
abbrev wsX120 : List Cond := u_ws RX12 TX12 89
theorem nmX12 : ∀ a, a < 89 → ∀ b, b < 89 → a ≠ b → (TX12 a).2.1 ≠ (TX12 b).2.1 := by decide +kernel
theorem tyX12_ok : ∀ k, k < 89 → parseFieldDescriptor (TX12 k).2.2.1 = some (tyX12 k) := by decide +kernel
abbrev vwCl : List vw_C := [(RX0, TX0, 10), (RX1, TX1, 6), (RX2, TX2, 2), (RX3, TX3, 12), (RX4, TX4, 6), (RX5, TX5, 3), (RX6, TX6, 5), (RX7, TX7, 16), (RX8, TX8, 8), (RX9, TX9, 7), (RX10, TX10, 6), (RX11, TX11, 15), (RX12, TX12, 89)]
