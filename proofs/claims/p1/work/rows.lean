section
-- ===== PART A: goes FIRST, ahead of the names: the tables' words, and 'selects' of the private methods out of them =====
/-- a private method of a class that the tables say can be made, by its rows of tables_1 -/
def lw_okq (q : MethodName × Nat) : Prop := (q.1.cls ≠ "java/lang/invoke/MethodHandle" ∧ q.1.cls ≠ "java/lang/invoke/VarHandle") ∧ Cond.instantiable q.1.cls q.2 ∈ tables_1 ∧ Cond.privateMethod q.1 ∈ tables_1 ∧ Cond.instanceMethod q.1 ∈ tables_1
theorem lw_p0 : lw_okq (⟨"TaperedNumbers$Reader", "begin", "()V"⟩, 14) := ⟨⟨by decide +kernel, by decide +kernel⟩, List.mem_of_getElem? (i := 28) (by decide +kernel), List.mem_of_getElem? (i := 403) (by decide +kernel), List.mem_of_getElem? (i := 404) (by decide +kernel)⟩
theorem lw_p1 : lw_okq (⟨"TaperedNumbers$Reader", "scan", "()V"⟩, 14) := ⟨⟨by decide +kernel, by decide +kernel⟩, List.mem_of_getElem? (i := 28) (by decide +kernel), List.mem_of_getElem? (i := 407) (by decide +kernel), List.mem_of_getElem? (i := 408) (by decide +kernel)⟩
theorem lw_p2 : lw_okq (⟨"TaperedNumbers$Reader", "scanWord", "()V"⟩, 14) := ⟨⟨by decide +kernel, by decide +kernel⟩, List.mem_of_getElem? (i := 28) (by decide +kernel), List.mem_of_getElem? (i := 421) (by decide +kernel), List.mem_of_getElem? (i := 422) (by decide +kernel)⟩
theorem lw_p3 : lw_okq (⟨"TaperedNumbers$Reader", "scanInt", "()V"⟩, 14) := ⟨⟨by decide +kernel, by decide +kernel⟩, List.mem_of_getElem? (i := 28) (by decide +kernel), List.mem_of_getElem? (i := 437) (by decide +kernel), List.mem_of_getElem? (i := 438) (by decide +kernel)⟩
theorem lw_p4 : lw_okq (⟨"TaperedNumbers$Reader", "taken", "(I)Z"⟩, 14) := ⟨⟨by decide +kernel, by decide +kernel⟩, List.mem_of_getElem? (i := 28) (by decide +kernel), List.mem_of_getElem? (i := 446) (by decide +kernel), List.mem_of_getElem? (i := 447) (by decide +kernel)⟩
theorem lw_p5 : lw_okq (⟨"TaperedNumbers$Reader", "stop", "(I)V"⟩, 14) := ⟨⟨by decide +kernel, by decide +kernel⟩, List.mem_of_getElem? (i := 28) (by decide +kernel), List.mem_of_getElem? (i := 450) (by decide +kernel), List.mem_of_getElem? (i := 451) (by decide +kernel)⟩
theorem lw_p6 : lw_okq (⟨"TaperedNumbers$Reader", "takeNumber", "(II)I"⟩, 14) := ⟨⟨by decide +kernel, by decide +kernel⟩, List.mem_of_getElem? (i := 28) (by decide +kernel), List.mem_of_getElem? (i := 454) (by decide +kernel), List.mem_of_getElem? (i := 455) (by decide +kernel)⟩
theorem lw_p7 : lw_okq (⟨"TaperedNumbers$Reader", "noteLater", "(II)V"⟩, 14) := ⟨⟨by decide +kernel, by decide +kernel⟩, List.mem_of_getElem? (i := 28) (by decide +kernel), List.mem_of_getElem? (i := 458) (by decide +kernel), List.mem_of_getElem? (i := 459) (by decide +kernel)⟩
theorem lw_p8 : lw_okq (⟨"TaperedNumbers$Reader", "parseLine", "()V"⟩, 14) := ⟨⟨by decide +kernel, by decide +kernel⟩, List.mem_of_getElem? (i := 28) (by decide +kernel), List.mem_of_getElem? (i := 462) (by decide +kernel), List.mem_of_getElem? (i := 463) (by decide +kernel)⟩
theorem lw_p9 : lw_okq (⟨"TaperedNumbers$Reader", "indexOf", "(J)I"⟩, 14) := ⟨⟨by decide +kernel, by decide +kernel⟩, List.mem_of_getElem? (i := 28) (by decide +kernel), List.mem_of_getElem? (i := 466) (by decide +kernel), List.mem_of_getElem? (i := 467) (by decide +kernel)⟩
theorem lw_p10 : lw_okq (⟨"TaperedNumbers$Reader", "parseExpr", "(I)V"⟩, 14) := ⟨⟨by decide +kernel, by decide +kernel⟩, List.mem_of_getElem? (i := 28) (by decide +kernel), List.mem_of_getElem? (i := 470) (by decide +kernel), List.mem_of_getElem? (i := 471) (by decide +kernel)⟩
theorem lw_p11 : lw_okq (⟨"TaperedNumbers$Reader", "parseTerm", "(I)V"⟩, 14) := ⟨⟨by decide +kernel, by decide +kernel⟩, List.mem_of_getElem? (i := 28) (by decide +kernel), List.mem_of_getElem? (i := 474) (by decide +kernel), List.mem_of_getElem? (i := 475) (by decide +kernel)⟩
theorem lw_p12 : lw_okq (⟨"TaperedNumbers$Reader", "parseAtom", "(I)V"⟩, 14) := ⟨⟨by decide +kernel, by decide +kernel⟩, List.mem_of_getElem? (i := 28) (by decide +kernel), List.mem_of_getElem? (i := 478) (by decide +kernel), List.mem_of_getElem? (i := 479) (by decide +kernel)⟩
theorem lw_p13 : lw_okq (⟨"TaperedNumbers$Reader", "parseNameInExpr", "()V"⟩, 14) := ⟨⟨by decide +kernel, by decide +kernel⟩, List.mem_of_getElem? (i := 28) (by decide +kernel), List.mem_of_getElem? (i := 486) (by decide +kernel), List.mem_of_getElem? (i := 487) (by decide +kernel)⟩
theorem lw_p14 : lw_okq (⟨"TaperedNumbers$Reader", "parseOpened", "(I)V"⟩, 14) := ⟨⟨by decide +kernel, by decide +kernel⟩, List.mem_of_getElem? (i := 28) (by decide +kernel), List.mem_of_getElem? (i := 490) (by decide +kernel), List.mem_of_getElem? (i := 491) (by decide +kernel)⟩
theorem lw_p15 : lw_okq (⟨"TaperedNumbers$Reader", "parseSum", "(I)V"⟩, 14) := ⟨⟨by decide +kernel, by decide +kernel⟩, List.mem_of_getElem? (i := 28) (by decide +kernel), List.mem_of_getElem? (i := 494) (by decide +kernel), List.mem_of_getElem? (i := 495) (by decide +kernel)⟩
def lw_privs_1 : List (MethodName × Nat) := [(⟨"TaperedNumbers$Reader", "begin", "()V"⟩, 14), (⟨"TaperedNumbers$Reader", "scan", "()V"⟩, 14), (⟨"TaperedNumbers$Reader", "scanWord", "()V"⟩, 14), (⟨"TaperedNumbers$Reader", "scanInt", "()V"⟩, 14), (⟨"TaperedNumbers$Reader", "taken", "(I)Z"⟩, 14), (⟨"TaperedNumbers$Reader", "stop", "(I)V"⟩, 14), (⟨"TaperedNumbers$Reader", "takeNumber", "(II)I"⟩, 14), (⟨"TaperedNumbers$Reader", "noteLater", "(II)V"⟩, 14), (⟨"TaperedNumbers$Reader", "parseLine", "()V"⟩, 14), (⟨"TaperedNumbers$Reader", "indexOf", "(J)I"⟩, 14), (⟨"TaperedNumbers$Reader", "parseExpr", "(I)V"⟩, 14), (⟨"TaperedNumbers$Reader", "parseTerm", "(I)V"⟩, 14), (⟨"TaperedNumbers$Reader", "parseAtom", "(I)V"⟩, 14), (⟨"TaperedNumbers$Reader", "parseNameInExpr", "()V"⟩, 14), (⟨"TaperedNumbers$Reader", "parseOpened", "(I)V"⟩, 14), (⟨"TaperedNumbers$Reader", "parseSum", "(I)V"⟩, 14)]
theorem lw_r1 : ∀ q ∈ lw_privs_1, lw_okq q := List.forall_mem_cons.mpr ⟨lw_p0, List.forall_mem_cons.mpr ⟨lw_p1, List.forall_mem_cons.mpr ⟨lw_p2, List.forall_mem_cons.mpr ⟨lw_p3, List.forall_mem_cons.mpr ⟨lw_p4, List.forall_mem_cons.mpr ⟨lw_p5, List.forall_mem_cons.mpr ⟨lw_p6, List.forall_mem_cons.mpr ⟨lw_p7, List.forall_mem_cons.mpr ⟨lw_p8, List.forall_mem_cons.mpr ⟨lw_p9, List.forall_mem_cons.mpr ⟨lw_p10, List.forall_mem_cons.mpr ⟨lw_p11, List.forall_mem_cons.mpr ⟨lw_p12, List.forall_mem_cons.mpr ⟨lw_p13, List.forall_mem_cons.mpr ⟨lw_p14, List.forall_mem_cons.mpr ⟨lw_p15, fun _ h => absurd h List.not_mem_nil⟩⟩⟩⟩⟩⟩⟩⟩⟩⟩⟩⟩⟩⟩⟩⟩
theorem lw_p16 : lw_okq (⟨"TaperedNumbers", "begin", "()V"⟩, 17) := ⟨⟨by decide +kernel, by decide +kernel⟩, List.mem_of_getElem? (i := 20) (by decide +kernel), List.mem_of_getElem? (i := 498) (by decide +kernel), List.mem_of_getElem? (i := 499) (by decide +kernel)⟩
theorem lw_p17 : lw_okq (⟨"TaperedNumbers$Rounder", "roundedBare", "(II)I"⟩, 4) := ⟨⟨by decide +kernel, by decide +kernel⟩, List.mem_of_getElem? (i := 136) (by decide +kernel), List.mem_of_getElem? (i := 559) (by decide +kernel), List.mem_of_getElem? (i := 560) (by decide +kernel)⟩
theorem lw_p18 : lw_okq (⟨"TaperedNumbers$Rounder", "cut", "(JI)I"⟩, 4) := ⟨⟨by decide +kernel, by decide +kernel⟩, List.mem_of_getElem? (i := 136) (by decide +kernel), List.mem_of_getElem? (i := 579) (by decide +kernel), List.mem_of_getElem? (i := 580) (by decide +kernel)⟩
theorem lw_p19 : lw_okq (⟨"TaperedNumbers$Worker", "push", "(I)V"⟩, 6) := ⟨⟨by decide +kernel, by decide +kernel⟩, List.mem_of_getElem? (i := 130) (by decide +kernel), List.mem_of_getElem? (i := 586) (by decide +kernel), List.mem_of_getElem? (i := 587) (by decide +kernel)⟩
theorem lw_p20 : lw_okq (⟨"TaperedNumbers$Worker", "pop", "()I"⟩, 6) := ⟨⟨by decide +kernel, by decide +kernel⟩, List.mem_of_getElem? (i := 130) (by decide +kernel), List.mem_of_getElem? (i := 590) (by decide +kernel), List.mem_of_getElem? (i := 591) (by decide +kernel)⟩
theorem lw_p21 : lw_okq (⟨"TaperedNumbers$Rounder", "takeRoot", "()V"⟩, 4) := ⟨⟨by decide +kernel, by decide +kernel⟩, List.mem_of_getElem? (i := 136) (by decide +kernel), List.mem_of_getElem? (i := 630) (by decide +kernel), List.mem_of_getElem? (i := 631) (by decide +kernel)⟩
theorem lw_p22 : lw_okq (⟨"TaperedNumbers$Worker", "addProducts", "(III)V"⟩, 6) := ⟨⟨by decide +kernel, by decide +kernel⟩, List.mem_of_getElem? (i := 130) (by decide +kernel), List.mem_of_getElem? (i := 639) (by decide +kernel), List.mem_of_getElem? (i := 640) (by decide +kernel)⟩
theorem lw_p23 : lw_okq (⟨"TaperedNumbers$Sum", "addBits", "(JIZ)V"⟩, 3) := ⟨⟨by decide +kernel, by decide +kernel⟩, List.mem_of_getElem? (i := 226) (by decide +kernel), List.mem_of_getElem? (i := 649) (by decide +kernel), List.mem_of_getElem? (i := 650) (by decide +kernel)⟩
theorem lw_p24 : lw_okq (⟨"TaperedNumbers$Sum", "negateWords", "()V"⟩, 3) := ⟨⟨by decide +kernel, by decide +kernel⟩, List.mem_of_getElem? (i := 226) (by decide +kernel), List.mem_of_getElem? (i := 655) (by decide +kernel), List.mem_of_getElem? (i := 656) (by decide +kernel)⟩
theorem lw_p25 : lw_okq (⟨"TaperedNumbers$Sum", "highestBit", "()I"⟩, 3) := ⟨⟨by decide +kernel, by decide +kernel⟩, List.mem_of_getElem? (i := 226) (by decide +kernel), List.mem_of_getElem? (i := 665) (by decide +kernel), List.mem_of_getElem? (i := 666) (by decide +kernel)⟩
theorem lw_p26 : lw_okq (⟨"TaperedNumbers$Sum", "bitAt", "(I)I"⟩, 3) := ⟨⟨by decide +kernel, by decide +kernel⟩, List.mem_of_getElem? (i := 226) (by decide +kernel), List.mem_of_getElem? (i := 670) (by decide +kernel), List.mem_of_getElem? (i := 671) (by decide +kernel)⟩
theorem lw_p27 : lw_okq (⟨"TaperedNumbers$Sum", "hasBitBelow", "(I)Z"⟩, 3) := ⟨⟨by decide +kernel, by decide +kernel⟩, List.mem_of_getElem? (i := 226) (by decide +kernel), List.mem_of_getElem? (i := 674) (by decide +kernel), List.mem_of_getElem? (i := 675) (by decide +kernel)⟩
theorem lw_p28 : lw_okq (⟨"TaperedNumbers$Rounder", "addBoth", "()V"⟩, 4) := ⟨⟨by decide +kernel, by decide +kernel⟩, List.mem_of_getElem? (i := 136) (by decide +kernel), List.mem_of_getElem? (i := 684) (by decide +kernel), List.mem_of_getElem? (i := 685) (by decide +kernel)⟩
theorem lw_p29 : lw_okq (⟨"TaperedNumbers$Rounder", "multiplyBoth", "()V"⟩, 4) := ⟨⟨by decide +kernel, by decide +kernel⟩, List.mem_of_getElem? (i := 136) (by decide +kernel), List.mem_of_getElem? (i := 690) (by decide +kernel), List.mem_of_getElem? (i := 691) (by decide +kernel)⟩
theorem lw_p30 : lw_okq (⟨"TaperedNumbers$Rounder", "divideBoth", "()V"⟩, 4) := ⟨⟨by decide +kernel, by decide +kernel⟩, List.mem_of_getElem? (i := 136) (by decide +kernel), List.mem_of_getElem? (i := 694) (by decide +kernel), List.mem_of_getElem? (i := 695) (by decide +kernel)⟩
theorem lw_p31 : lw_okq (⟨"TaperedNumbers", "remember", "()V"⟩, 17) := ⟨⟨by decide +kernel, by decide +kernel⟩, List.mem_of_getElem? (i := 20) (by decide +kernel), List.mem_of_getElem? (i := 709) (by decide +kernel), List.mem_of_getElem? (i := 710) (by decide +kernel)⟩
def lw_privs_2 : List (MethodName × Nat) := [(⟨"TaperedNumbers", "begin", "()V"⟩, 17), (⟨"TaperedNumbers$Rounder", "roundedBare", "(II)I"⟩, 4), (⟨"TaperedNumbers$Rounder", "cut", "(JI)I"⟩, 4), (⟨"TaperedNumbers$Worker", "push", "(I)V"⟩, 6), (⟨"TaperedNumbers$Worker", "pop", "()I"⟩, 6), (⟨"TaperedNumbers$Rounder", "takeRoot", "()V"⟩, 4), (⟨"TaperedNumbers$Worker", "addProducts", "(III)V"⟩, 6), (⟨"TaperedNumbers$Sum", "addBits", "(JIZ)V"⟩, 3), (⟨"TaperedNumbers$Sum", "negateWords", "()V"⟩, 3), (⟨"TaperedNumbers$Sum", "highestBit", "()I"⟩, 3), (⟨"TaperedNumbers$Sum", "bitAt", "(I)I"⟩, 3), (⟨"TaperedNumbers$Sum", "hasBitBelow", "(I)Z"⟩, 3), (⟨"TaperedNumbers$Rounder", "addBoth", "()V"⟩, 4), (⟨"TaperedNumbers$Rounder", "multiplyBoth", "()V"⟩, 4), (⟨"TaperedNumbers$Rounder", "divideBoth", "()V"⟩, 4), (⟨"TaperedNumbers", "remember", "()V"⟩, 17)]
theorem lw_r2 : ∀ q ∈ lw_privs_2, lw_okq q := List.forall_mem_cons.mpr ⟨lw_p16, List.forall_mem_cons.mpr ⟨lw_p17, List.forall_mem_cons.mpr ⟨lw_p18, List.forall_mem_cons.mpr ⟨lw_p19, List.forall_mem_cons.mpr ⟨lw_p20, List.forall_mem_cons.mpr ⟨lw_p21, List.forall_mem_cons.mpr ⟨lw_p22, List.forall_mem_cons.mpr ⟨lw_p23, List.forall_mem_cons.mpr ⟨lw_p24, List.forall_mem_cons.mpr ⟨lw_p25, List.forall_mem_cons.mpr ⟨lw_p26, List.forall_mem_cons.mpr ⟨lw_p27, List.forall_mem_cons.mpr ⟨lw_p28, List.forall_mem_cons.mpr ⟨lw_p29, List.forall_mem_cons.mpr ⟨lw_p30, List.forall_mem_cons.mpr ⟨lw_p31, fun _ h => absurd h List.not_mem_nil⟩⟩⟩⟩⟩⟩⟩⟩⟩⟩⟩⟩⟩⟩⟩⟩
theorem lw_p32 : lw_okq (⟨"TaperedNumbers", "goBackTo", "(LTaperedNumbers$State;)V"⟩, 17) := ⟨⟨by decide +kernel, by decide +kernel⟩, List.mem_of_getElem? (i := 20) (by decide +kernel), List.mem_of_getElem? (i := 746) (by decide +kernel), List.mem_of_getElem? (i := 747) (by decide +kernel)⟩
theorem lw_p33 : lw_okq (⟨"TaperedNumbers", "partOf", "(IIII)I"⟩, 17) := ⟨⟨by decide +kernel, by decide +kernel⟩, List.mem_of_getElem? (i := 20) (by decide +kernel), List.mem_of_getElem? (i := 793) (by decide +kernel), List.mem_of_getElem? (i := 794) (by decide +kernel)⟩
theorem lw_p34 : lw_okq (⟨"TaperedNumbers$Decimals", "append", "(I)V"⟩, 2) := ⟨⟨by decide +kernel, by decide +kernel⟩, List.mem_of_getElem? (i := 265) (by decide +kernel), List.mem_of_getElem? (i := 821) (by decide +kernel), List.mem_of_getElem? (i := 822) (by decide +kernel)⟩
theorem lw_p35 : lw_okq (⟨"TaperedNumbers$Decimals", "appendWhole", "(J)V"⟩, 2) := ⟨⟨by decide +kernel, by decide +kernel⟩, List.mem_of_getElem? (i := 265) (by decide +kernel), List.mem_of_getElem? (i := 827) (by decide +kernel), List.mem_of_getElem? (i := 828) (by decide +kernel)⟩
theorem lw_p36 : lw_okq (⟨"TaperedNumbers$Real", "missOf", "(I)J"⟩, 5) := ⟨⟨by decide +kernel, by decide +kernel⟩, List.mem_of_getElem? (i := 142) (by decide +kernel), List.mem_of_getElem? (i := 845) (by decide +kernel), List.mem_of_getElem? (i := 846) (by decide +kernel)⟩
theorem lw_p37 : lw_okq (⟨"TaperedNumbers$Real", "overBits", "()J"⟩, 5) := ⟨⟨by decide +kernel, by decide +kernel⟩, List.mem_of_getElem? (i := 142) (by decide +kernel), List.mem_of_getElem? (i := 849) (by decide +kernel), List.mem_of_getElem? (i := 850) (by decide +kernel)⟩
theorem lw_p38 : lw_okq (⟨"TaperedNumbers$Real", "bitsBelow", "()I"⟩, 5) := ⟨⟨by decide +kernel, by decide +kernel⟩, List.mem_of_getElem? (i := 142) (by decide +kernel), List.mem_of_getElem? (i := 858) (by decide +kernel), List.mem_of_getElem? (i := 859) (by decide +kernel)⟩
theorem lw_p39 : lw_okq (⟨"TaperedNumbers", "stepFrom", "(IIII)I"⟩, 17) := ⟨⟨by decide +kernel, by decide +kernel⟩, List.mem_of_getElem? (i := 20) (by decide +kernel), List.mem_of_getElem? (i := 907) (by decide +kernel), List.mem_of_getElem? (i := 908) (by decide +kernel)⟩
theorem lw_p40 : lw_okq (⟨"TaperedNumbers", "countExact", "(III)I"⟩, 17) := ⟨⟨by decide +kernel, by decide +kernel⟩, List.mem_of_getElem? (i := 20) (by decide +kernel), List.mem_of_getElem? (i := 926) (by decide +kernel), List.mem_of_getElem? (i := 927) (by decide +kernel)⟩
theorem lw_p41 : lw_okq (⟨"TaperedNumbers", "nilNames", "()I"⟩, 17) := ⟨⟨by decide +kernel, by decide +kernel⟩, List.mem_of_getElem? (i := 20) (by decide +kernel), List.mem_of_getElem? (i := 951) (by decide +kernel), List.mem_of_getElem? (i := 952) (by decide +kernel)⟩
theorem lw_p42 : lw_okq (⟨"TaperedNumbers", "unlikeNames", "()I"⟩, 17) := ⟨⟨by decide +kernel, by decide +kernel⟩, List.mem_of_getElem? (i := 20) (by decide +kernel), List.mem_of_getElem? (i := 955) (by decide +kernel), List.mem_of_getElem? (i := 956) (by decide +kernel)⟩
theorem lw_p43 : lw_okq (⟨"TaperedNumbers", "fullSlots", "()I"⟩, 17) := ⟨⟨by decide +kernel, by decide +kernel⟩, List.mem_of_getElem? (i := 20) (by decide +kernel), List.mem_of_getElem? (i := 959) (by decide +kernel), List.mem_of_getElem? (i := 960) (by decide +kernel)⟩
theorem lw_p44 : lw_okq (⟨"TaperedNumbersModel", "lays", "(I)V"⟩, 62) := ⟨⟨by decide +kernel, by decide +kernel⟩, List.mem_of_getElem? (i := 967) (by decide +kernel), List.mem_of_getElem? (i := 1171) (by decide +kernel), List.mem_of_getElem? (i := 1172) (by decide +kernel)⟩
theorem lw_p45 : lw_okq (⟨"TaperedNumbersModel", "cutsText", "()V"⟩, 62) := ⟨⟨by decide +kernel, by decide +kernel⟩, List.mem_of_getElem? (i := 967) (by decide +kernel), List.mem_of_getElem? (i := 1183) (by decide +kernel), List.mem_of_getElem? (i := 1184) (by decide +kernel)⟩
theorem lw_p46 : lw_okq (⟨"TaperedNumbersModel", "byteAt", "(I)I"⟩, 62) := ⟨⟨by decide +kernel, by decide +kernel⟩, List.mem_of_getElem? (i := 967) (by decide +kernel), List.mem_of_getElem? (i := 1187) (by decide +kernel), List.mem_of_getElem? (i := 1188) (by decide +kernel)⟩
theorem lw_p47 : lw_okq (⟨"TaperedNumbersModel", "token", "(IIIJ)V"⟩, 62) := ⟨⟨by decide +kernel, by decide +kernel⟩, List.mem_of_getElem? (i := 967) (by decide +kernel), List.mem_of_getElem? (i := 1191) (by decide +kernel), List.mem_of_getElem? (i := 1192) (by decide +kernel)⟩
def lw_privs_3 : List (MethodName × Nat) := [(⟨"TaperedNumbers", "goBackTo", "(LTaperedNumbers$State;)V"⟩, 17), (⟨"TaperedNumbers", "partOf", "(IIII)I"⟩, 17), (⟨"TaperedNumbers$Decimals", "append", "(I)V"⟩, 2), (⟨"TaperedNumbers$Decimals", "appendWhole", "(J)V"⟩, 2), (⟨"TaperedNumbers$Real", "missOf", "(I)J"⟩, 5), (⟨"TaperedNumbers$Real", "overBits", "()J"⟩, 5), (⟨"TaperedNumbers$Real", "bitsBelow", "()I"⟩, 5), (⟨"TaperedNumbers", "stepFrom", "(IIII)I"⟩, 17), (⟨"TaperedNumbers", "countExact", "(III)I"⟩, 17), (⟨"TaperedNumbers", "nilNames", "()I"⟩, 17), (⟨"TaperedNumbers", "unlikeNames", "()I"⟩, 17), (⟨"TaperedNumbers", "fullSlots", "()I"⟩, 17), (⟨"TaperedNumbersModel", "lays", "(I)V"⟩, 62), (⟨"TaperedNumbersModel", "cutsText", "()V"⟩, 62), (⟨"TaperedNumbersModel", "byteAt", "(I)I"⟩, 62), (⟨"TaperedNumbersModel", "token", "(IIIJ)V"⟩, 62)]
theorem lw_r3 : ∀ q ∈ lw_privs_3, lw_okq q := List.forall_mem_cons.mpr ⟨lw_p32, List.forall_mem_cons.mpr ⟨lw_p33, List.forall_mem_cons.mpr ⟨lw_p34, List.forall_mem_cons.mpr ⟨lw_p35, List.forall_mem_cons.mpr ⟨lw_p36, List.forall_mem_cons.mpr ⟨lw_p37, List.forall_mem_cons.mpr ⟨lw_p38, List.forall_mem_cons.mpr ⟨lw_p39, List.forall_mem_cons.mpr ⟨lw_p40, List.forall_mem_cons.mpr ⟨lw_p41, List.forall_mem_cons.mpr ⟨lw_p42, List.forall_mem_cons.mpr ⟨lw_p43, List.forall_mem_cons.mpr ⟨lw_p44, List.forall_mem_cons.mpr ⟨lw_p45, List.forall_mem_cons.mpr ⟨lw_p46, List.forall_mem_cons.mpr ⟨lw_p47, fun _ h => absurd h List.not_mem_nil⟩⟩⟩⟩⟩⟩⟩⟩⟩⟩⟩⟩⟩⟩⟩⟩
theorem lw_p48 : lw_okq (⟨"TaperedNumbersModel", "sign", "(II)I"⟩, 62) := ⟨⟨by decide +kernel, by decide +kernel⟩, List.mem_of_getElem? (i := 967) (by decide +kernel), List.mem_of_getElem? (i := 1201) (by decide +kernel), List.mem_of_getElem? (i := 1202) (by decide +kernel)⟩
theorem lw_p49 : lw_okq (⟨"TaperedNumbersModel", "must", "(I)V"⟩, 62) := ⟨⟨by decide +kernel, by decide +kernel⟩, List.mem_of_getElem? (i := 967) (by decide +kernel), List.mem_of_getElem? (i := 1208) (by decide +kernel), List.mem_of_getElem? (i := 1209) (by decide +kernel)⟩
theorem lw_p50 : lw_okq (⟨"TaperedNumbersModel", "is", "(I)Z"⟩, 62) := ⟨⟨by decide +kernel, by decide +kernel⟩, List.mem_of_getElem? (i := 967) (by decide +kernel), List.mem_of_getElem? (i := 1212) (by decide +kernel), List.mem_of_getElem? (i := 1213) (by decide +kernel)⟩
theorem lw_p51 : lw_okq (⟨"TaperedNumbersModel", "passes", "()V"⟩, 62) := ⟨⟨by decide +kernel, by decide +kernel⟩, List.mem_of_getElem? (i := 967) (by decide +kernel), List.mem_of_getElem? (i := 1216) (by decide +kernel), List.mem_of_getElem? (i := 1217) (by decide +kernel)⟩
theorem lw_p52 : lw_okq (⟨"TaperedNumbersModel", "fail", "(I)V"⟩, 62) := ⟨⟨by decide +kernel, by decide +kernel⟩, List.mem_of_getElem? (i := 967) (by decide +kernel), List.mem_of_getElem? (i := 1220) (by decide +kernel), List.mem_of_getElem? (i := 1221) (by decide +kernel)⟩
theorem lw_p53 : lw_okq (⟨"TaperedNumbersModel", "tellLine", "()V"⟩, 62) := ⟨⟨by decide +kernel, by decide +kernel⟩, List.mem_of_getElem? (i := 967) (by decide +kernel), List.mem_of_getElem? (i := 1224) (by decide +kernel), List.mem_of_getElem? (i := 1225) (by decide +kernel)⟩
theorem lw_p54 : lw_okq (⟨"TaperedNumbersModel", "expression", "()V"⟩, 62) := ⟨⟨by decide +kernel, by decide +kernel⟩, List.mem_of_getElem? (i := 967) (by decide +kernel), List.mem_of_getElem? (i := 1228) (by decide +kernel), List.mem_of_getElem? (i := 1229) (by decide +kernel)⟩
theorem lw_p55 : lw_okq (⟨"TaperedNumbersModel", "opens", "(I)V"⟩, 62) := ⟨⟨by decide +kernel, by decide +kernel⟩, List.mem_of_getElem? (i := 967) (by decide +kernel), List.mem_of_getElem? (i := 1232) (by decide +kernel), List.mem_of_getElem? (i := 1233) (by decide +kernel)⟩
theorem lw_p56 : lw_okq (⟨"TaperedNumbersModel", "means", "()V"⟩, 62) := ⟨⟨by decide +kernel, by decide +kernel⟩, List.mem_of_getElem? (i := 967) (by decide +kernel), List.mem_of_getElem? (i := 1236) (by decide +kernel), List.mem_of_getElem? (i := 1237) (by decide +kernel)⟩
theorem lw_p57 : lw_okq (⟨"TaperedNumbersModel", "wrong", "(II)V"⟩, 62) := ⟨⟨by decide +kernel, by decide +kernel⟩, List.mem_of_getElem? (i := 967) (by decide +kernel), List.mem_of_getElem? (i := 1243) (by decide +kernel), List.mem_of_getElem? (i := 1244) (by decide +kernel)⟩
theorem lw_p58 : lw_okq (⟨"TaperedNumbersModel", "meansLet", "(I)V"⟩, 62) := ⟨⟨by decide +kernel, by decide +kernel⟩, List.mem_of_getElem? (i := 967) (by decide +kernel), List.mem_of_getElem? (i := 1247) (by decide +kernel), List.mem_of_getElem? (i := 1248) (by decide +kernel)⟩
theorem lw_p59 : lw_okq (⟨"TaperedNumbersModel", "named", "(J)I"⟩, 62) := ⟨⟨by decide +kernel, by decide +kernel⟩, List.mem_of_getElem? (i := 967) (by decide +kernel), List.mem_of_getElem? (i := 1251) (by decide +kernel), List.mem_of_getElem? (i := 1252) (by decide +kernel)⟩
theorem lw_p60 : lw_okq (⟨"TaperedNumbersModel", "meansToken", "(IZ)V"⟩, 62) := ⟨⟨by decide +kernel, by decide +kernel⟩, List.mem_of_getElem? (i := 967) (by decide +kernel), List.mem_of_getElem? (i := 1255) (by decide +kernel), List.mem_of_getElem? (i := 1256) (by decide +kernel)⟩
theorem lw_p61 : lw_okq (⟨"TaperedNumbersModel", "step", "(II)V"⟩, 62) := ⟨⟨by decide +kernel, by decide +kernel⟩, List.mem_of_getElem? (i := 967) (by decide +kernel), List.mem_of_getElem? (i := 1259) (by decide +kernel), List.mem_of_getElem? (i := 1260) (by decide +kernel)⟩
theorem lw_p62 : lw_okq (⟨"TaperedNumbersModel", "waitsFor", "(I)V"⟩, 62) := ⟨⟨by decide +kernel, by decide +kernel⟩, List.mem_of_getElem? (i := 967) (by decide +kernel), List.mem_of_getElem? (i := 1263) (by decide +kernel), List.mem_of_getElem? (i := 1264) (by decide +kernel)⟩
theorem lw_p63 : lw_okq (⟨"TaperedNumbersModel", "settles", "(I)V"⟩, 62) := ⟨⟨by decide +kernel, by decide +kernel⟩, List.mem_of_getElem? (i := 967) (by decide +kernel), List.mem_of_getElem? (i := 1267) (by decide +kernel), List.mem_of_getElem? (i := 1268) (by decide +kernel)⟩
def lw_privs_4 : List (MethodName × Nat) := [(⟨"TaperedNumbersModel", "sign", "(II)I"⟩, 62), (⟨"TaperedNumbersModel", "must", "(I)V"⟩, 62), (⟨"TaperedNumbersModel", "is", "(I)Z"⟩, 62), (⟨"TaperedNumbersModel", "passes", "()V"⟩, 62), (⟨"TaperedNumbersModel", "fail", "(I)V"⟩, 62), (⟨"TaperedNumbersModel", "tellLine", "()V"⟩, 62), (⟨"TaperedNumbersModel", "expression", "()V"⟩, 62), (⟨"TaperedNumbersModel", "opens", "(I)V"⟩, 62), (⟨"TaperedNumbersModel", "means", "()V"⟩, 62), (⟨"TaperedNumbersModel", "wrong", "(II)V"⟩, 62), (⟨"TaperedNumbersModel", "meansLet", "(I)V"⟩, 62), (⟨"TaperedNumbersModel", "named", "(J)I"⟩, 62), (⟨"TaperedNumbersModel", "meansToken", "(IZ)V"⟩, 62), (⟨"TaperedNumbersModel", "step", "(II)V"⟩, 62), (⟨"TaperedNumbersModel", "waitsFor", "(I)V"⟩, 62), (⟨"TaperedNumbersModel", "settles", "(I)V"⟩, 62)]
theorem lw_r4 : ∀ q ∈ lw_privs_4, lw_okq q := List.forall_mem_cons.mpr ⟨lw_p48, List.forall_mem_cons.mpr ⟨lw_p49, List.forall_mem_cons.mpr ⟨lw_p50, List.forall_mem_cons.mpr ⟨lw_p51, List.forall_mem_cons.mpr ⟨lw_p52, List.forall_mem_cons.mpr ⟨lw_p53, List.forall_mem_cons.mpr ⟨lw_p54, List.forall_mem_cons.mpr ⟨lw_p55, List.forall_mem_cons.mpr ⟨lw_p56, List.forall_mem_cons.mpr ⟨lw_p57, List.forall_mem_cons.mpr ⟨lw_p58, List.forall_mem_cons.mpr ⟨lw_p59, List.forall_mem_cons.mpr ⟨lw_p60, List.forall_mem_cons.mpr ⟨lw_p61, List.forall_mem_cons.mpr ⟨lw_p62, List.forall_mem_cons.mpr ⟨lw_p63, fun _ h => absurd h List.not_mem_nil⟩⟩⟩⟩⟩⟩⟩⟩⟩⟩⟩⟩⟩⟩⟩⟩
theorem lw_p64 : lw_okq (⟨"TaperedNumbersModel", "takesText", "()V"⟩, 62) := ⟨⟨by decide +kernel, by decide +kernel⟩, List.mem_of_getElem? (i := 967) (by decide +kernel), List.mem_of_getElem? (i := 1274) (by decide +kernel), List.mem_of_getElem? (i := 1275) (by decide +kernel)⟩
theorem lw_p65 : lw_okq (⟨"TaperedNumbersModel", "works", "()V"⟩, 62) := ⟨⟨by decide +kernel, by decide +kernel⟩, List.mem_of_getElem? (i := 967) (by decide +kernel), List.mem_of_getElem? (i := 1278) (by decide +kernel), List.mem_of_getElem? (i := 1279) (by decide +kernel)⟩
theorem lw_p66 : lw_okq (⟨"TaperedNumbersModel", "worksOne", "(III)I"⟩, 62) := ⟨⟨by decide +kernel, by decide +kernel⟩, List.mem_of_getElem? (i := 967) (by decide +kernel), List.mem_of_getElem? (i := 1282) (by decide +kernel), List.mem_of_getElem? (i := 1283) (by decide +kernel)⟩
theorem lw_p67 : lw_okq (⟨"TaperedNumbersModel", "wholeRow", "(III)I"⟩, 62) := ⟨⟨by decide +kernel, by decide +kernel⟩, List.mem_of_getElem? (i := 967) (by decide +kernel), List.mem_of_getElem? (i := 1286) (by decide +kernel), List.mem_of_getElem? (i := 1287) (by decide +kernel)⟩
theorem lw_p68 : lw_okq (⟨"TaperedNumbersModel", "roundsQuotient", "(IIJIJII)I"⟩, 62) := ⟨⟨by decide +kernel, by decide +kernel⟩, List.mem_of_getElem? (i := 967) (by decide +kernel), List.mem_of_getElem? (i := 1290) (by decide +kernel), List.mem_of_getElem? (i := 1291) (by decide +kernel)⟩
theorem lw_p69 : lw_okq (⟨"TaperedNumbersModel", "rounds", "(II)I"⟩, 62) := ⟨⟨by decide +kernel, by decide +kernel⟩, List.mem_of_getElem? (i := 967) (by decide +kernel), List.mem_of_getElem? (i := 1294) (by decide +kernel), List.mem_of_getElem? (i := 1295) (by decide +kernel)⟩
theorem lw_p70 : lw_okq (⟨"TaperedNumbersModel", "against", "(III)I"⟩, 62) := ⟨⟨by decide +kernel, by decide +kernel⟩, List.mem_of_getElem? (i := 967) (by decide +kernel), List.mem_of_getElem? (i := 1301) (by decide +kernel), List.mem_of_getElem? (i := 1302) (by decide +kernel)⟩
theorem lw_p71 : lw_okq (⟨"TaperedNumbersModel", "opens", "(III)V"⟩, 62) := ⟨⟨by decide +kernel, by decide +kernel⟩, List.mem_of_getElem? (i := 967) (by decide +kernel), List.mem_of_getElem? (i := 1305) (by decide +kernel), List.mem_of_getElem? (i := 1306) (by decide +kernel)⟩
theorem lw_p72 : lw_okq (⟨"TaperedNumbersModel", "signed", "(III)I"⟩, 62) := ⟨⟨by decide +kernel, by decide +kernel⟩, List.mem_of_getElem? (i := 967) (by decide +kernel), List.mem_of_getElem? (i := 1328) (by decide +kernel), List.mem_of_getElem? (i := 1329) (by decide +kernel)⟩
theorem lw_p73 : lw_okq (⟨"TaperedNumbersModel", "rootOf", "(III)I"⟩, 62) := ⟨⟨by decide +kernel, by decide +kernel⟩, List.mem_of_getElem? (i := 967) (by decide +kernel), List.mem_of_getElem? (i := 1332) (by decide +kernel), List.mem_of_getElem? (i := 1333) (by decide +kernel)⟩
theorem lw_p74 : lw_okq (⟨"TaperedNumbersModel", "sumOf", "(IIII)I"⟩, 62) := ⟨⟨by decide +kernel, by decide +kernel⟩, List.mem_of_getElem? (i := 967) (by decide +kernel), List.mem_of_getElem? (i := 1336) (by decide +kernel), List.mem_of_getElem? (i := 1337) (by decide +kernel)⟩
theorem lw_p75 : lw_okq (⟨"TaperedNumbersModel", "clears", "()V"⟩, 62) := ⟨⟨by decide +kernel, by decide +kernel⟩, List.mem_of_getElem? (i := 967) (by decide +kernel), List.mem_of_getElem? (i := 1340) (by decide +kernel), List.mem_of_getElem? (i := 1341) (by decide +kernel)⟩
theorem lw_p76 : lw_okq (⟨"TaperedNumbersModel", "addsProduct", "(IIIII)V"⟩, 62) := ⟨⟨by decide +kernel, by decide +kernel⟩, List.mem_of_getElem? (i := 967) (by decide +kernel), List.mem_of_getElem? (i := 1347) (by decide +kernel), List.mem_of_getElem? (i := 1348) (by decide +kernel)⟩
theorem lw_p77 : lw_okq (⟨"TaperedNumbersModel", "adds", "(JII)V"⟩, 62) := ⟨⟨by decide +kernel, by decide +kernel⟩, List.mem_of_getElem? (i := 967) (by decide +kernel), List.mem_of_getElem? (i := 1354) (by decide +kernel), List.mem_of_getElem? (i := 1355) (by decide +kernel)⟩
theorem lw_p78 : lw_okq (⟨"TaperedNumbersModel", "roundsSum", "(II)I"⟩, 62) := ⟨⟨by decide +kernel, by decide +kernel⟩, List.mem_of_getElem? (i := 967) (by decide +kernel), List.mem_of_getElem? (i := 1359) (by decide +kernel), List.mem_of_getElem? (i := 1360) (by decide +kernel)⟩
theorem lw_p79 : lw_okq (⟨"TaperedNumbersModel", "worked", "(IIIII)I"⟩, 62) := ⟨⟨by decide +kernel, by decide +kernel⟩, List.mem_of_getElem? (i := 967) (by decide +kernel), List.mem_of_getElem? (i := 1363) (by decide +kernel), List.mem_of_getElem? (i := 1364) (by decide +kernel)⟩
def lw_privs_5 : List (MethodName × Nat) := [(⟨"TaperedNumbersModel", "takesText", "()V"⟩, 62), (⟨"TaperedNumbersModel", "works", "()V"⟩, 62), (⟨"TaperedNumbersModel", "worksOne", "(III)I"⟩, 62), (⟨"TaperedNumbersModel", "wholeRow", "(III)I"⟩, 62), (⟨"TaperedNumbersModel", "roundsQuotient", "(IIJIJII)I"⟩, 62), (⟨"TaperedNumbersModel", "rounds", "(II)I"⟩, 62), (⟨"TaperedNumbersModel", "against", "(III)I"⟩, 62), (⟨"TaperedNumbersModel", "opens", "(III)V"⟩, 62), (⟨"TaperedNumbersModel", "signed", "(III)I"⟩, 62), (⟨"TaperedNumbersModel", "rootOf", "(III)I"⟩, 62), (⟨"TaperedNumbersModel", "sumOf", "(IIII)I"⟩, 62), (⟨"TaperedNumbersModel", "clears", "()V"⟩, 62), (⟨"TaperedNumbersModel", "addsProduct", "(IIIII)V"⟩, 62), (⟨"TaperedNumbersModel", "adds", "(JII)V"⟩, 62), (⟨"TaperedNumbersModel", "roundsSum", "(II)I"⟩, 62), (⟨"TaperedNumbersModel", "worked", "(IIIII)I"⟩, 62)]
theorem lw_r5 : ∀ q ∈ lw_privs_5, lw_okq q := List.forall_mem_cons.mpr ⟨lw_p64, List.forall_mem_cons.mpr ⟨lw_p65, List.forall_mem_cons.mpr ⟨lw_p66, List.forall_mem_cons.mpr ⟨lw_p67, List.forall_mem_cons.mpr ⟨lw_p68, List.forall_mem_cons.mpr ⟨lw_p69, List.forall_mem_cons.mpr ⟨lw_p70, List.forall_mem_cons.mpr ⟨lw_p71, List.forall_mem_cons.mpr ⟨lw_p72, List.forall_mem_cons.mpr ⟨lw_p73, List.forall_mem_cons.mpr ⟨lw_p74, List.forall_mem_cons.mpr ⟨lw_p75, List.forall_mem_cons.mpr ⟨lw_p76, List.forall_mem_cons.mpr ⟨lw_p77, List.forall_mem_cons.mpr ⟨lw_p78, List.forall_mem_cons.mpr ⟨lw_p79, fun _ h => absurd h List.not_mem_nil⟩⟩⟩⟩⟩⟩⟩⟩⟩⟩⟩⟩⟩⟩⟩⟩
theorem lw_p80 : lw_okq (⟨"TaperedNumbersModel", "addsRow", "(IIII)V"⟩, 62) := ⟨⟨by decide +kernel, by decide +kernel⟩, List.mem_of_getElem? (i := 967) (by decide +kernel), List.mem_of_getElem? (i := 1367) (by decide +kernel), List.mem_of_getElem? (i := 1368) (by decide +kernel)⟩
theorem lw_p81 : lw_okq (⟨"TaperedNumbersModel", "lays", "([II)V"⟩, 62) := ⟨⟨by decide +kernel, by decide +kernel⟩, List.mem_of_getElem? (i := 967) (by decide +kernel), List.mem_of_getElem? (i := 1379) (by decide +kernel), List.mem_of_getElem? (i := 1380) (by decide +kernel)⟩
theorem lw_p82 : lw_okq (⟨"TaperedNumbersModel", "marks", "()V"⟩, 62) := ⟨⟨by decide +kernel, by decide +kernel⟩, List.mem_of_getElem? (i := 967) (by decide +kernel), List.mem_of_getElem? (i := 1398) (by decide +kernel), List.mem_of_getElem? (i := 1399) (by decide +kernel)⟩
theorem lw_p83 : lw_okq (⟨"TaperedNumbersModel", "bringsStore", "()V"⟩, 62) := ⟨⟨by decide +kernel, by decide +kernel⟩, List.mem_of_getElem? (i := 967) (by decide +kernel), List.mem_of_getElem? (i := 1409) (by decide +kernel), List.mem_of_getElem? (i := 1410) (by decide +kernel)⟩
theorem lw_p84 : lw_okq (⟨"TaperedNumbersModel", "halves", "(IIIIII)I"⟩, 62) := ⟨⟨by decide +kernel, by decide +kernel⟩, List.mem_of_getElem? (i := 967) (by decide +kernel), List.mem_of_getElem? (i := 1433) (by decide +kernel), List.mem_of_getElem? (i := 1434) (by decide +kernel)⟩
theorem lw_p85 : lw_okq (⟨"TaperedNumbersModel", "wholeOf", "(III)I"⟩, 62) := ⟨⟨by decide +kernel, by decide +kernel⟩, List.mem_of_getElem? (i := 967) (by decide +kernel), List.mem_of_getElem? (i := 1463) (by decide +kernel), List.mem_of_getElem? (i := 1464) (by decide +kernel)⟩
theorem lw_p86 : lw_okq (⟨"TaperedNumbersModel", "reduces", "()V"⟩, 62) := ⟨⟨by decide +kernel, by decide +kernel⟩, List.mem_of_getElem? (i := 967) (by decide +kernel), List.mem_of_getElem? (i := 1469) (by decide +kernel), List.mem_of_getElem? (i := 1470) (by decide +kernel)⟩
theorem lw_p87 : lw_okq (⟨"TaperedNumbersModel", "partOf", "(I)I"⟩, 62) := ⟨⟨by decide +kernel, by decide +kernel⟩, List.mem_of_getElem? (i := 967) (by decide +kernel), List.mem_of_getElem? (i := 1473) (by decide +kernel), List.mem_of_getElem? (i := 1474) (by decide +kernel)⟩
theorem lw_p88 : lw_okq (⟨"TaperedNumbersModel", "writesRow", "(III)V"⟩, 62) := ⟨⟨by decide +kernel, by decide +kernel⟩, List.mem_of_getElem? (i := 967) (by decide +kernel), List.mem_of_getElem? (i := 1481) (by decide +kernel), List.mem_of_getElem? (i := 1482) (by decide +kernel)⟩
theorem lw_p89 : lw_okq (⟨"TaperedNumbersModel", "writes", "(I)V"⟩, 62) := ⟨⟨by decide +kernel, by decide +kernel⟩, List.mem_of_getElem? (i := 967) (by decide +kernel), List.mem_of_getElem? (i := 1485) (by decide +kernel), List.mem_of_getElem? (i := 1486) (by decide +kernel)⟩
theorem lw_p90 : lw_okq (⟨"TaperedNumbersModel", "writesWhole", "(J)V"⟩, 62) := ⟨⟨by decide +kernel, by decide +kernel⟩, List.mem_of_getElem? (i := 967) (by decide +kernel), List.mem_of_getElem? (i := 1489) (by decide +kernel), List.mem_of_getElem? (i := 1490) (by decide +kernel)⟩
theorem lw_p91 : lw_okq (⟨"TaperedNumbersModel", "stepOf", "(IIII)I"⟩, 62) := ⟨⟨by decide +kernel, by decide +kernel⟩, List.mem_of_getElem? (i := 967) (by decide +kernel), List.mem_of_getElem? (i := 1499) (by decide +kernel), List.mem_of_getElem? (i := 1500) (by decide +kernel)⟩
theorem lw_p92 : lw_okq (⟨"TaperedNumbersModel", "nearest", "(JIII)J"⟩, 62) := ⟨⟨by decide +kernel, by decide +kernel⟩, List.mem_of_getElem? (i := 967) (by decide +kernel), List.mem_of_getElem? (i := 1512) (by decide +kernel), List.mem_of_getElem? (i := 1513) (by decide +kernel)⟩
theorem lw_p93 : lw_okq (⟨"TaperedNumbersModel", "nilNames", "()I"⟩, 62) := ⟨⟨by decide +kernel, by decide +kernel⟩, List.mem_of_getElem? (i := 967) (by decide +kernel), List.mem_of_getElem? (i := 1536) (by decide +kernel), List.mem_of_getElem? (i := 1537) (by decide +kernel)⟩
theorem lw_p94 : lw_okq (⟨"TaperedNumbersModel", "unlikeNames", "()I"⟩, 62) := ⟨⟨by decide +kernel, by decide +kernel⟩, List.mem_of_getElem? (i := 967) (by decide +kernel), List.mem_of_getElem? (i := 1540) (by decide +kernel), List.mem_of_getElem? (i := 1541) (by decide +kernel)⟩
theorem lw_p95 : lw_okq (⟨"TaperedNumbersModel", "greatestPower", "()I"⟩, 62) := ⟨⟨by decide +kernel, by decide +kernel⟩, List.mem_of_getElem? (i := 967) (by decide +kernel), List.mem_of_getElem? (i := 1544) (by decide +kernel), List.mem_of_getElem? (i := 1545) (by decide +kernel)⟩
def lw_privs_6 : List (MethodName × Nat) := [(⟨"TaperedNumbersModel", "addsRow", "(IIII)V"⟩, 62), (⟨"TaperedNumbersModel", "lays", "([II)V"⟩, 62), (⟨"TaperedNumbersModel", "marks", "()V"⟩, 62), (⟨"TaperedNumbersModel", "bringsStore", "()V"⟩, 62), (⟨"TaperedNumbersModel", "halves", "(IIIIII)I"⟩, 62), (⟨"TaperedNumbersModel", "wholeOf", "(III)I"⟩, 62), (⟨"TaperedNumbersModel", "reduces", "()V"⟩, 62), (⟨"TaperedNumbersModel", "partOf", "(I)I"⟩, 62), (⟨"TaperedNumbersModel", "writesRow", "(III)V"⟩, 62), (⟨"TaperedNumbersModel", "writes", "(I)V"⟩, 62), (⟨"TaperedNumbersModel", "writesWhole", "(J)V"⟩, 62), (⟨"TaperedNumbersModel", "stepOf", "(IIII)I"⟩, 62), (⟨"TaperedNumbersModel", "nearest", "(JIII)J"⟩, 62), (⟨"TaperedNumbersModel", "nilNames", "()I"⟩, 62), (⟨"TaperedNumbersModel", "unlikeNames", "()I"⟩, 62), (⟨"TaperedNumbersModel", "greatestPower", "()I"⟩, 62)]
theorem lw_r6 : ∀ q ∈ lw_privs_6, lw_okq q := List.forall_mem_cons.mpr ⟨lw_p80, List.forall_mem_cons.mpr ⟨lw_p81, List.forall_mem_cons.mpr ⟨lw_p82, List.forall_mem_cons.mpr ⟨lw_p83, List.forall_mem_cons.mpr ⟨lw_p84, List.forall_mem_cons.mpr ⟨lw_p85, List.forall_mem_cons.mpr ⟨lw_p86, List.forall_mem_cons.mpr ⟨lw_p87, List.forall_mem_cons.mpr ⟨lw_p88, List.forall_mem_cons.mpr ⟨lw_p89, List.forall_mem_cons.mpr ⟨lw_p90, List.forall_mem_cons.mpr ⟨lw_p91, List.forall_mem_cons.mpr ⟨lw_p92, List.forall_mem_cons.mpr ⟨lw_p93, List.forall_mem_cons.mpr ⟨lw_p94, List.forall_mem_cons.mpr ⟨lw_p95, fun _ h => absurd h List.not_mem_nil⟩⟩⟩⟩⟩⟩⟩⟩⟩⟩⟩⟩⟩⟩⟩⟩
theorem lw_p96 : lw_okq (⟨"TaperedNumbersModel", "storeWhole", "()I"⟩, 62) := ⟨⟨by decide +kernel, by decide +kernel⟩, List.mem_of_getElem? (i := 967) (by decide +kernel), List.mem_of_getElem? (i := 1548) (by decide +kernel), List.mem_of_getElem? (i := 1549) (by decide +kernel)⟩
def lw_privs_7 : List (MethodName × Nat) := [(⟨"TaperedNumbersModel", "storeWhole", "()I"⟩, 62)]
theorem lw_r7 : ∀ q ∈ lw_privs_7, lw_okq q := List.forall_mem_cons.mpr ⟨lw_p96, fun _ h => absurd h List.not_mem_nil⟩
def lw_privs : List (MethodName × Nat) := lw_privs_1 ++ (lw_privs_2 ++ (lw_privs_3 ++ (lw_privs_4 ++ (lw_privs_5 ++ (lw_privs_6 ++ (lw_privs_7))))))
def lw_tbl : List Cond := k2_sels lw_privs ++ tables_1
theorem lw_privs_ok : ∀ q ∈ lw_privs, lw_okq q := by
  show ∀ q ∈ lw_privs_1 ++ (lw_privs_2 ++ (lw_privs_3 ++ (lw_privs_4 ++ (lw_privs_5 ++ (lw_privs_6 ++ (lw_privs_7)))))), lw_okq q
  exact List.forall_mem_append.mpr ⟨lw_r1, List.forall_mem_append.mpr ⟨lw_r2, List.forall_mem_append.mpr ⟨lw_r3, List.forall_mem_append.mpr ⟨lw_r4, List.forall_mem_append.mpr ⟨lw_r5, List.forall_mem_append.mpr ⟨lw_r6, lw_r7⟩⟩⟩⟩⟩⟩
end
section
/-! classes, fields, methods, code and links of this program, written by a text program out of the printed names and the listing -/
def RX0 : String := "TaperedNumbers$Decimals"
def TX0 : u_T := fun k => match k with
  | 0 => ("TaperedNumbers$Decimals", "signs", "[B", true)
  | _ => ("TaperedNumbers$Decimals", "length", "I", false)
def tyX0 : Nat → FieldType := fun k => match k with
  | 0 => .array .byte
  | _ => .int
abbrev wsX00 : List Cond := u_ws RX0 TX0 2
theorem nmX0 : ∀ a, a < 2 → ∀ b, b < 2 → a ≠ b → (TX0 a).2.1 ≠ (TX0 b).2.1 := by decide +kernel
theorem tyX0_ok : ∀ k, k < 2 → parseFieldDescriptor (TX0 k).2.2.1 = some (tyX0 k) := by decide +kernel
def RX1 : String := "TaperedNumbers$Reader"
def TX1 : u_T := fun k => match k with
  | 0 => ("TaperedNumbers$Reader", "tape", "LTaperedNumbers$Tape;", true)
  | 1 => ("TaperedNumbers$Reader", "told", "[J", true)
  | 2 => ("TaperedNumbers$Reader", "text", "LTaperedNumbers$Text;", false)
  | 3 => ("TaperedNumbers$Reader", "faultAt", "I", false)
  | 4 => ("TaperedNumbers$Reader", "pos", "I", false)
  | 5 => ("TaperedNumbers$Reader", "kind", "I", false)
  | 6 => ("TaperedNumbers$Reader", "at", "I", false)
  | 7 => ("TaperedNumbers$Reader", "value", "J", false)
  | 8 => ("TaperedNumbers$Reader", "tokens", "I", false)
  | 9 => ("TaperedNumbers$Reader", "lets", "I", false)
  | 10 => ("TaperedNumbers$Reader", "open", "I", false)
  | 11 => ("TaperedNumbers$Reader", "fault", "I", false)
  | 12 => ("TaperedNumbers$Reader", "laterFault", "I", false)
  | _ => ("TaperedNumbers$Reader", "laterAt", "I", false)
def tyX1 : Nat → FieldType := fun k => match k with
  | 0 => .object "TaperedNumbers$Tape"
  | 1 => .array .long
  | 2 => .object "TaperedNumbers$Text"
  | 3 => .int
  | 4 => .int
  | 5 => .int
  | 6 => .int
  | 7 => .long
  | 8 => .int
  | 9 => .int
  | 10 => .int
  | 11 => .int
  | 12 => .int
  | _ => .int
abbrev wsX10 : List Cond := u_ws RX1 TX1 14
theorem nmX1 : ∀ a, a < 14 → ∀ b, b < 14 → a ≠ b → (TX1 a).2.1 ≠ (TX1 b).2.1 := by decide +kernel
theorem tyX1_ok : ∀ k, k < 14 → parseFieldDescriptor (TX1 k).2.2.1 = some (tyX1 k) := by decide +kernel
def RX2 : String := "TaperedNumbers$Real"
def TX2 : u_T := fun k => match k with
  | 0 => ("TaperedNumbers$Real", "parts", "LTaperedNumbers$Row;", true)
  | 1 => ("TaperedNumbers$Real", "nil", "Z", false)
  | 2 => ("TaperedNumbers$Real", "sign", "I", false)
  | 3 => ("TaperedNumbers$Real", "mant", "J", false)
  | _ => ("TaperedNumbers$Real", "power", "I", false)
def tyX2 : Nat → FieldType := fun k => match k with
  | 0 => .object "TaperedNumbers$Row"
  | 1 => .boolean
  | 2 => .int
  | 3 => .long
  | _ => .int
abbrev wsX20 : List Cond := u_ws RX2 TX2 5
theorem nmX2 : ∀ a, a < 5 → ∀ b, b < 5 → a ≠ b → (TX2 a).2.1 ≠ (TX2 b).2.1 := by decide +kernel
theorem tyX2_ok : ∀ k, k < 5 → parseFieldDescriptor (TX2 k).2.2.1 = some (tyX2 k) := by decide +kernel
def RX3 : String := "TaperedNumbers$Rounder"
def TX3 : u_T := fun k => match k with
  | 0 => ("TaperedNumbers$Rounder", "left", "LTaperedNumbers$Real;", true)
  | 1 => ("TaperedNumbers$Rounder", "right", "LTaperedNumbers$Real;", true)
  | 2 => ("TaperedNumbers$Rounder", "out", "LTaperedNumbers$Real;", true)
  | _ => ("TaperedNumbers$Rounder", "lean", "I", false)
def tyX3 : Nat → FieldType := fun k => match k with
  | 0 => .object "TaperedNumbers$Real"
  | 1 => .object "TaperedNumbers$Real"
  | 2 => .object "TaperedNumbers$Real"
  | _ => .int
abbrev wsX30 : List Cond := u_ws RX3 TX3 4
theorem nmX3 : ∀ a, a < 4 → ∀ b, b < 4 → a ≠ b → (TX3 a).2.1 ≠ (TX3 b).2.1 := by decide +kernel
theorem tyX3_ok : ∀ k, k < 4 → parseFieldDescriptor (TX3 k).2.2.1 = some (tyX3 k) := by decide +kernel
def RX4 : String := "TaperedNumbers$Row"
def TX4 : u_T := fun k => match k with
  | 0 => ("TaperedNumbers$Row", "run", "I", false)
  | 1 => ("TaperedNumbers$Row", "regime", "I", false)
  | 2 => ("TaperedNumbers$Row", "exponent", "I", false)
  | 3 => ("TaperedNumbers$Row", "fractionBits", "I", false)
  | _ => ("TaperedNumbers$Row", "fraction", "I", false)
def tyX4 : Nat → FieldType := fun k => match k with
  | 0 => .int
  | 1 => .int
  | 2 => .int
  | 3 => .int
  | _ => .int
abbrev wsX40 : List Cond := u_ws RX4 TX4 5
theorem nmX4 : ∀ a, a < 5 → ∀ b, b < 5 → a ≠ b → (TX4 a).2.1 ≠ (TX4 b).2.1 := by decide +kernel
theorem tyX4_ok : ∀ k, k < 5 → parseFieldDescriptor (TX4 k).2.2.1 = some (tyX4 k) := by decide +kernel
def RX5 : String := "TaperedNumbers$Slot"
def TX5 : u_T := fun k => match k with
  | 0 => ("TaperedNumbers$Slot", "state", "LTaperedNumbers$State;", true)
  | 1 => ("TaperedNumbers$Slot", "tape", "LTaperedNumbers$Tape;", true)
  | _ => ("TaperedNumbers$Slot", "full", "Z", false)
def tyX5 : Nat → FieldType := fun k => match k with
  | 0 => .object "TaperedNumbers$State"
  | 1 => .object "TaperedNumbers$Tape"
  | _ => .boolean
abbrev wsX50 : List Cond := u_ws RX5 TX5 3
theorem nmX5 : ∀ a, a < 3 → ∀ b, b < 3 → a ≠ b → (TX5 a).2.1 ≠ (TX5 b).2.1 := by decide +kernel
theorem tyX5_ok : ∀ k, k < 3 → parseFieldDescriptor (TX5 k).2.2.1 = some (tyX5 k) := by decide +kernel
def RX6 : String := "TaperedNumbers$State"
def TX6 : u_T := fun k => match k with
  | 0 => ("TaperedNumbers$State", "sum", "LTaperedNumbers$Sum;", true)
  | 1 => ("TaperedNumbers$State", "size", "I", false)
  | _ => ("TaperedNumbers$State", "wide", "I", false)
def tyX6 : Nat → FieldType := fun k => match k with
  | 0 => .object "TaperedNumbers$Sum"
  | 1 => .int
  | _ => .int
abbrev wsX60 : List Cond := u_ws RX6 TX6 3
theorem nmX6 : ∀ a, a < 3 → ∀ b, b < 3 → a ≠ b → (TX6 a).2.1 ≠ (TX6 b).2.1 := by decide +kernel
theorem tyX6_ok : ∀ k, k < 3 → parseFieldDescriptor (TX6 k).2.2.1 = some (tyX6 k) := by decide +kernel
def RX7 : String := "TaperedNumbers$Sum"
def TX7 : u_T := fun k => match k with
  | 0 => ("TaperedNumbers$Sum", "words", "[J", true)
  | 1 => ("TaperedNumbers$Sum", "below", "Z", false)
  | _ => ("TaperedNumbers$Sum", "nil", "Z", false)
def tyX7 : Nat → FieldType := fun k => match k with
  | 0 => .array .long
  | 1 => .boolean
  | _ => .boolean
abbrev wsX70 : List Cond := u_ws RX7 TX7 3
theorem nmX7 : ∀ a, a < 3 → ∀ b, b < 3 → a ≠ b → (TX7 a).2.1 ≠ (TX7 b).2.1 := by decide +kernel
theorem tyX7_ok : ∀ k, k < 3 → parseFieldDescriptor (TX7 k).2.2.1 = some (tyX7 k) := by decide +kernel
def RX8 : String := "TaperedNumbers$Tape"
def TX8 : u_T := fun k => match k with
  | 0 => ("TaperedNumbers$Tape", "bytes", "[B", true)
  | _ => ("TaperedNumbers$Tape", "length", "I", false)
def tyX8 : Nat → FieldType := fun k => match k with
  | 0 => .array .byte
  | _ => .int
abbrev wsX80 : List Cond := u_ws RX8 TX8 2
theorem nmX8 : ∀ a, a < 2 → ∀ b, b < 2 → a ≠ b → (TX8 a).2.1 ≠ (TX8 b).2.1 := by decide +kernel
theorem tyX8_ok : ∀ k, k < 2 → parseFieldDescriptor (TX8 k).2.2.1 = some (tyX8 k) := by decide +kernel
def RX9 : String := "TaperedNumbers$Text"
def TX9 : u_T := fun k => match k with
  | 0 => ("TaperedNumbers$Text", "orders", "[I", true)
  | 1 => ("TaperedNumbers$Text", "values", "[I", true)
  | 2 => ("TaperedNumbers$Text", "length", "I", false)
  | 3 => ("TaperedNumbers$Text", "names", "I", false)
  | 4 => ("TaperedNumbers$Text", "size", "I", false)
  | _ => ("TaperedNumbers$Text", "wide", "I", false)
def tyX9 : Nat → FieldType := fun k => match k with
  | 0 => .array .int
  | 1 => .array .int
  | 2 => .int
  | 3 => .int
  | 4 => .int
  | _ => .int
abbrev wsX90 : List Cond := u_ws RX9 TX9 6
theorem nmX9 : ∀ a, a < 6 → ∀ b, b < 6 → a ≠ b → (TX9 a).2.1 ≠ (TX9 b).2.1 := by decide +kernel
theorem tyX9_ok : ∀ k, k < 6 → parseFieldDescriptor (TX9 k).2.2.1 = some (tyX9 k) := by decide +kernel
def RX10 : String := "TaperedNumbers$Worker"
def TX10 : u_T := fun k => match k with
  | 0 => ("TaperedNumbers$Worker", "rounder", "LTaperedNumbers$Rounder;", true)
  | 1 => ("TaperedNumbers$Worker", "sum", "LTaperedNumbers$Sum;", true)
  | 2 => ("TaperedNumbers$Worker", "one", "LTaperedNumbers$Real;", true)
  | 3 => ("TaperedNumbers$Worker", "other", "LTaperedNumbers$Real;", true)
  | 4 => ("TaperedNumbers$Worker", "stack", "[I", true)
  | _ => ("TaperedNumbers$Worker", "height", "I", false)
def tyX10 : Nat → FieldType := fun k => match k with
  | 0 => .object "TaperedNumbers$Rounder"
  | 1 => .object "TaperedNumbers$Sum"
  | 2 => .object "TaperedNumbers$Real"
  | 3 => .object "TaperedNumbers$Real"
  | 4 => .array .int
  | _ => .int
abbrev wsX100 : List Cond := u_ws RX10 TX10 6
theorem nmX10 : ∀ a, a < 6 → ∀ b, b < 6 → a ≠ b → (TX10 a).2.1 ≠ (TX10 b).2.1 := by decide +kernel
theorem tyX10_ok : ∀ k, k < 6 → parseFieldDescriptor (TX10 k).2.2.1 = some (tyX10 k) := by decide +kernel
def RX11 : String := "TaperedNumbers"
def TX11 : u_T := fun k => match k with
  | 0 => ("TaperedNumbers", "tape", "LTaperedNumbers$Tape;", true)
  | 1 => ("TaperedNumbers", "reader", "LTaperedNumbers$Reader;", true)
  | 2 => ("TaperedNumbers", "worker", "LTaperedNumbers$Worker;", true)
  | 3 => ("TaperedNumbers", "rounder", "LTaperedNumbers$Rounder;", true)
  | 4 => ("TaperedNumbers", "decimals", "LTaperedNumbers$Decimals;", true)
  | 5 => ("TaperedNumbers", "real", "LTaperedNumbers$Real;", true)
  | 6 => ("TaperedNumbers", "other", "LTaperedNumbers$Real;", true)
  | 7 => ("TaperedNumbers", "now", "LTaperedNumbers$State;", true)
  | 8 => ("TaperedNumbers", "past", "[LTaperedNumbers$State;", true)
  | 9 => ("TaperedNumbers", "slots", "[LTaperedNumbers$Slot;", true)
  | 10 => ("TaperedNumbers", "names", "[I", true)
  | 11 => ("TaperedNumbers", "cameAt", "[I", true)
  | 12 => ("TaperedNumbers", "exactPairs", "[I", true)
  | 13 => ("TaperedNumbers", "text", "LTaperedNumbers$Text;", false)
  | 14 => ("TaperedNumbers", "oldest", "I", false)
  | 15 => ("TaperedNumbers", "undoable", "I", false)
  | _ => ("TaperedNumbers", "faultPlace", "I", false)
def tyX11 : Nat → FieldType := fun k => match k with
  | 0 => .object "TaperedNumbers$Tape"
  | 1 => .object "TaperedNumbers$Reader"
  | 2 => .object "TaperedNumbers$Worker"
  | 3 => .object "TaperedNumbers$Rounder"
  | 4 => .object "TaperedNumbers$Decimals"
  | 5 => .object "TaperedNumbers$Real"
  | 6 => .object "TaperedNumbers$Real"
  | 7 => .object "TaperedNumbers$State"
  | 8 => .array (.object "TaperedNumbers$State")
  | 9 => .array (.object "TaperedNumbers$Slot")
  | 10 => .array .int
  | 11 => .array .int
  | 12 => .array .int
  | 13 => .object "TaperedNumbers$Text"
  | 14 => .int
  | 15 => .int
  | _ => .int
abbrev wsX110 : List Cond := u_ws RX11 TX11 17
theorem nmX11 : ∀ a, a < 17 → ∀ b, b < 17 → a ≠ b → (TX11 a).2.1 ≠ (TX11 b).2.1 := by decide +kernel
theorem tyX11_ok : ∀ k, k < 17 → parseFieldDescriptor (TX11 k).2.2.1 = some (tyX11 k) := by decide +kernel
def RX12 : String := "TaperedNumbersModel"
def TX12 : u_T := fun k => match k with
  | 0 => ("TaperedNumbersModel", "thrown", "I", false)
  | 1 => ("TaperedNumbersModel", "tape", "[B", true)
  | 2 => ("TaperedNumbersModel", "taped", "I", false)
  | 3 => ("TaperedNumbersModel", "text", "[B", true)
  | 4 => ("TaperedNumbersModel", "size", "I", false)
  | 5 => ("TaperedNumbersModel", "tKind", "[I", true)
  | 6 => ("TaperedNumbersModel", "tPlace", "[I", true)
  | 7 => ("TaperedNumbersModel", "tValue", "[I", true)
  | 8 => ("TaperedNumbersModel", "tName", "[J", true)
  | 9 => ("TaperedNumbersModel", "keys", "[J", true)
  | 10 => ("TaperedNumbersModel", "tokens", "I", false)
  | 11 => ("TaperedNumbersModel", "t", "I", false)
  | 12 => ("TaperedNumbersModel", "fault", "I", false)
  | 13 => ("TaperedNumbersModel", "faultPlace", "I", false)
  | 14 => ("TaperedNumbersModel", "worst", "I", false)
  | 15 => ("TaperedNumbersModel", "worstPlace", "I", false)
  | 16 => ("TaperedNumbersModel", "place", "I", false)
  | 17 => ("TaperedNumbersModel", "now", "[I", true)
  | 18 => ("TaperedNumbersModel", "letLines", "I", false)
  | 19 => ("TaperedNumbersModel", "stepKind", "[I", true)
  | 20 => ("TaperedNumbersModel", "stepValue", "[I", true)
  | 21 => ("TaperedNumbersModel", "steps", "I", false)
  | 22 => ("TaperedNumbersModel", "letFrom", "[I", true)
  | 23 => ("TaperedNumbersModel", "letName", "[J", true)
  | 24 => ("TaperedNumbersModel", "letRow", "[I", true)
  | 25 => ("TaperedNumbersModel", "lets", "I", false)
  | 26 => ("TaperedNumbersModel", "newKind", "[I", true)
  | 27 => ("TaperedNumbersModel", "newValue", "[I", true)
  | 28 => ("TaperedNumbersModel", "newFrom", "[I", true)
  | 29 => ("TaperedNumbersModel", "newSteps", "I", false)
  | 30 => ("TaperedNumbersModel", "newLets", "I", false)
  | 31 => ("TaperedNumbersModel", "open", "I", false)
  | 32 => ("TaperedNumbersModel", "openKind", "[I", true)
  | 33 => ("TaperedNumbersModel", "openParts", "[I", true)
  | 34 => ("TaperedNumbersModel", "waiting", "[I", true)
  | 35 => ("TaperedNumbersModel", "parts", "[I", true)
  | 36 => ("TaperedNumbersModel", "waits", "I", false)
  | 37 => ("TaperedNumbersModel", "stack", "[I", true)
  | 38 => ("TaperedNumbersModel", "earlier", "[I", true)
  | 39 => ("TaperedNumbersModel", "earliest", "I", false)
  | 40 => ("TaperedNumbersModel", "undos", "I", false)
  | 41 => ("TaperedNumbersModel", "held", "[I", true)
  | 42 => ("TaperedNumbersModel", "isHeld", "[Z", true)
  | 43 => ("TaperedNumbersModel", "run", "I", false)
  | 44 => ("TaperedNumbersModel", "regime", "I", false)
  | 45 => ("TaperedNumbersModel", "exponent", "I", false)
  | 46 => ("TaperedNumbersModel", "fractionBits", "I", false)
  | 47 => ("TaperedNumbersModel", "fraction", "I", false)
  | 48 => ("TaperedNumbersModel", "mant", "I", false)
  | 49 => ("TaperedNumbersModel", "power", "I", false)
  | 50 => ("TaperedNumbersModel", "digits", "[I", true)
  | 51 => ("TaperedNumbersModel", "held16", "[I", true)
  | 52 => ("TaperedNumbersModel", "sign", "I", false)
  | 53 => ("TaperedNumbersModel", "how", "I", false)
  | 54 => ("TaperedNumbersModel", "overMant", "J", false)
  | 55 => ("TaperedNumbersModel", "overPower", "I", false)
  | 56 => ("TaperedNumbersModel", "underMant", "J", false)
  | 57 => ("TaperedNumbersModel", "underPower", "I", false)
  | 58 => ("TaperedNumbersModel", "more", "I", false)
  | 59 => ("TaperedNumbersModel", "signs", "[I", true)
  | 60 => ("TaperedNumbersModel", "signMany", "I", false)
  | _ => ("TaperedNumbersModel", "metAt", "[I", true)
def tyX12 : Nat → FieldType := fun k => match k with
  | 0 => .int
  | 1 => .array .byte
  | 2 => .int
  | 3 => .array .byte
  | 4 => .int
  | 5 => .array .int
  | 6 => .array .int
  | 7 => .array .int
  | 8 => .array .long
  | 9 => .array .long
  | 10 => .int
  | 11 => .int
  | 12 => .int
  | 13 => .int
  | 14 => .int
  | 15 => .int
  | 16 => .int
  | 17 => .array .int
  | 18 => .int
  | 19 => .array .int
  | 20 => .array .int
  | 21 => .int
  | 22 => .array .int
  | 23 => .array .long
  | 24 => .array .int
  | 25 => .int
  | 26 => .array .int
  | 27 => .array .int
  | 28 => .array .int
  | 29 => .int
  | 30 => .int
  | 31 => .int
  | 32 => .array .int
  | 33 => .array .int
  | 34 => .array .int
  | 35 => .array .int
  | 36 => .int
  | 37 => .array .int
  | 38 => .array .int
  | 39 => .int
  | 40 => .int
  | 41 => .array .int
  | 42 => .array .boolean
  | 43 => .int
  | 44 => .int
  | 45 => .int
  | 46 => .int
  | 47 => .int
  | 48 => .int
  | 49 => .int
  | 50 => .array .int
  | 51 => .array .int
  | 52 => .int
  | 53 => .int
  | 54 => .long
  | 55 => .int
  | 56 => .long
  | 57 => .int
  | 58 => .int
  | 59 => .array .int
  | 60 => .int
  | _ => .array .int
abbrev wsX120 : List Cond := u_ws RX12 TX12 62
theorem nmX12 : ∀ a, a < 62 → ∀ b, b < 62 → a ≠ b → (TX12 a).2.1 ≠ (TX12 b).2.1 := by decide +kernel
theorem tyX12_ok : ∀ k, k < 62 → parseFieldDescriptor (TX12 k).2.2.1 = some (tyX12 k) := by decide +kernel
abbrev jm_cl0 : List vw_C := [(RX0, TX0, 2), (RX1, TX1, 14), (RX2, TX2, 5), (RX3, TX3, 4), (RX4, TX4, 5), (RX5, TX5, 3), (RX6, TX6, 3), (RX7, TX7, 3), (RX8, TX8, 2), (RX9, TX9, 6), (RX10, TX10, 6), (RX11, TX11, 17), (RX12, TX12, 62)]
def jm_fts : List (List Nat) := [[2, 0], [2, 2, 2, 0, 0, 0, 0, 1, 0, 0, 0, 0, 0, 0], [2, 3, 0, 1, 0], [2, 2, 2, 0], [0, 0, 0, 0, 0], [2, 2, 3], [2, 0, 0], [2, 3, 3], [2, 0], [2, 2, 0, 0, 0, 0], [2, 2, 2, 2, 2, 0], [2, 2, 2, 2, 2, 2, 2, 2, 2, 2, 2, 2, 2, 2, 0, 0, 0], [0, 2, 0, 2, 0, 2, 2, 2, 2, 2, 0, 0, 0, 0, 0, 0, 0, 2, 0, 2, 2, 0, 2, 2, 2, 0, 2, 2, 2, 0, 0, 0, 2, 2, 2, 2, 0, 2, 2, 0, 0, 2, 2, 0, 0, 0, 0, 0, 0, 0, 2, 2, 0, 0, 1, 0, 1, 0, 0, 2, 0, 2]]
def jm_fin : List (List Bool) := [[true, false], [true, true, false, false, false, false, false, false, false, false, false, false, false, false], [true, false, false, false, false], [true, true, true, false], [false, false, false, false, false], [true, true, false], [true, false, false], [true, false, false], [true, false], [true, true, false, false, false, false], [true, true, true, true, true, false], [true, true, true, true, true, true, true, true, true, true, true, true, true, false, false, false, false], [false, true, false, true, false, true, true, true, true, true, false, false, false, false, false, false, false, true, false, true, true, false, true, true, true, false, true, true, true, false, false, false, true, true, true, true, false, true, true, false, false, true, true, false, false, false, false, false, false, false, true, true, false, false, false, false, false, false, false, true, false, true]]
abbrev jm_Mt : Type := MethodName × ByteArray × Nat × Option FieldType × Nat × Nat × Nat × Nat × Nat
/-- method, code, locals, answer, number of its class, parameters, rank, recursive (0: not), place of its code among the words -/
def jm_m0 : jm_Mt := (⟨"TaperedNumbers", "<init>", "()V"⟩, prog_1_method_1_code, 2, (Option.none : Option Jvm.ClassFile.FieldType), 11, 0, 5, 0, 120)
def jm_m1 : jm_Mt := (⟨"TaperedNumbers$Reader", "<init>", "()V"⟩, prog_3_method_1_code, 1, (Option.none : Option Jvm.ClassFile.FieldType), 1, 0, 2, 0, 128)
def jm_m2 : jm_Mt := (⟨"TaperedNumbers$Tape", "<init>", "()V"⟩, prog_10_method_1_code, 1, (Option.none : Option Jvm.ClassFile.FieldType), 8, 0, 1, 0, 134)
def jm_m3 : jm_Mt := (⟨"TaperedNumbers$Text", "<init>", "()V"⟩, prog_11_method_1_code, 1, (Option.none : Option Jvm.ClassFile.FieldType), 9, 0, 1, 0, 150)
def jm_m4 : jm_Mt := (⟨"TaperedNumbers$Worker", "<init>", "()V"⟩, prog_12_method_1_code, 1, (Option.none : Option Jvm.ClassFile.FieldType), 10, 0, 4, 0, 230)
def jm_m5 : jm_Mt := (⟨"TaperedNumbers$Rounder", "<init>", "()V"⟩, prog_5_method_1_code, 1, (Option.none : Option Jvm.ClassFile.FieldType), 3, 0, 3, 0, 236)
def jm_m6 : jm_Mt := (⟨"TaperedNumbers$Real", "<init>", "()V"⟩, prog_4_method_1_code, 1, (Option.none : Option Jvm.ClassFile.FieldType), 2, 0, 2, 0, 242)
def jm_m7 : jm_Mt := (⟨"TaperedNumbers$Row", "<init>", "()V"⟩, prog_6_method_1_code, 1, (Option.none : Option Jvm.ClassFile.FieldType), 4, 0, 1, 0, 248)
def jm_m8 : jm_Mt := (⟨"TaperedNumbers$Sum", "<init>", "()V"⟩, prog_9_method_1_code, 1, (Option.none : Option Jvm.ClassFile.FieldType), 7, 0, 1, 0, 326)
def jm_m9 : jm_Mt := (⟨"TaperedNumbers$Decimals", "<init>", "()V"⟩, prog_2_method_1_code, 1, (Option.none : Option Jvm.ClassFile.FieldType), 0, 0, 1, 0, 365)
def jm_m10 : jm_Mt := (⟨"TaperedNumbers$State", "<init>", "()V"⟩, prog_8_method_1_code, 1, (Option.none : Option Jvm.ClassFile.FieldType), 6, 0, 2, 0, 381)
def jm_m11 : jm_Mt := (⟨"TaperedNumbers$Slot", "<init>", "()V"⟩, prog_7_method_1_code, 1, (Option.none : Option Jvm.ClassFile.FieldType), 5, 0, 3, 0, 404)
def jm_m12 : jm_Mt := (⟨"java/util/Arrays", "fill", "([II)V"⟩, prog_19_method_103_code, 4, (Option.none : Option Jvm.ClassFile.FieldType), 16, 2, 1, 0, 424)
def jm_m13 : jm_Mt := (⟨"TaperedNumbers", "feed", "(IIIII)I"⟩, prog_1_method_2_code, 6, (Option.some Jvm.ClassFile.FieldType.int), 11, 5, 2, 0, 482)
def jm_m14 : jm_Mt := (⟨"TaperedNumbers$Tape", "putFour", "(I)V"⟩, prog_10_method_2_code, 3, (Option.none : Option Jvm.ClassFile.FieldType), 8, 1, 1, 0, 486)
def jm_m15 : jm_Mt := (⟨"TaperedNumbers", "back", "(I)I"⟩, prog_1_method_3_code, 2, (Option.some Jvm.ClassFile.FieldType.int), 11, 1, 1, 0, 490)
def jm_m16 : jm_Mt := (⟨"TaperedNumbers", "read", "()I"⟩, prog_1_method_4_code, 2, (Option.some Jvm.ClassFile.FieldType.int), 11, 0, 48, 0, 494)
def jm_m17 : jm_Mt := (⟨"TaperedNumbers$Reader", "check", "()I"⟩, prog_3_method_2_code, 2, (Option.some Jvm.ClassFile.FieldType.int), 1, 0, 47, 0, 498)
def jm_m18 : jm_Mt := (⟨"TaperedNumbers$Reader", "begin", "()V"⟩, prog_3_method_3_code, 1, (Option.none : Option Jvm.ClassFile.FieldType), 1, 0, 4, 0, 502)
def jm_m19 : jm_Mt := (⟨"TaperedNumbers$Reader", "scan", "()V"⟩, prog_3_method_4_code, 2, (Option.none : Option Jvm.ClassFile.FieldType), 1, 0, 3, 0, 506)
def jm_m20 : jm_Mt := (⟨"TaperedNumbers$Tape", "at", "(I)I"⟩, prog_10_method_3_code, 2, (Option.some Jvm.ClassFile.FieldType.int), 8, 1, 1, 0, 510)
def jm_m21 : jm_Mt := (⟨"TaperedNumbers$Reader", "isBlank", "(I)Z"⟩, prog_3_method_8_code, 1, (Option.some Jvm.ClassFile.FieldType.boolean), 1, 1, 1, 0, 513)
def jm_m22 : jm_Mt := (⟨"TaperedNumbers$Reader", "isLetter", "(I)Z"⟩, prog_3_method_9_code, 1, (Option.some Jvm.ClassFile.FieldType.boolean), 1, 1, 1, 0, 516)
def jm_m23 : jm_Mt := (⟨"TaperedNumbers$Reader", "scanWord", "()V"⟩, prog_3_method_5_code, 1, (Option.none : Option Jvm.ClassFile.FieldType), 1, 0, 2, 0, 520)
def jm_m24 : jm_Mt := (⟨"TaperedNumbers$Reader", "kindOfWord", "(J)I"⟩, prog_3_method_7_code, 2, (Option.some Jvm.ClassFile.FieldType.int), 1, 1, 1, 0, 525)
def jm_m25 : jm_Mt := (⟨"TaperedNumbers$Reader", "isDigit", "(I)Z"⟩, prog_3_method_10_code, 1, (Option.some Jvm.ClassFile.FieldType.boolean), 1, 1, 1, 0, 532)
def jm_m26 : jm_Mt := (⟨"TaperedNumbers$Reader", "scanInt", "()V"⟩, prog_3_method_6_code, 1, (Option.none : Option Jvm.ClassFile.FieldType), 1, 0, 2, 0, 536)
def jm_m27 : jm_Mt := (⟨"TaperedNumbers$Reader", "isSign", "(I)Z"⟩, prog_3_method_11_code, 1, (Option.some Jvm.ClassFile.FieldType.boolean), 1, 1, 1, 0, 541)
def jm_m28 : jm_Mt := (⟨"TaperedNumbers$Reader", "taken", "(I)Z"⟩, prog_3_method_14_code, 2, (Option.some Jvm.ClassFile.FieldType.boolean), 1, 1, 4, 0, 545)
def jm_m29 : jm_Mt := (⟨"TaperedNumbers$Reader", "stop", "(I)V"⟩, prog_3_method_12_code, 2, (Option.none : Option Jvm.ClassFile.FieldType), 1, 1, 1, 0, 549)
def jm_m30 : jm_Mt := (⟨"TaperedNumbers$Reader", "takeNumber", "(II)I"⟩, prog_3_method_15_code, 6, (Option.some Jvm.ClassFile.FieldType.int), 1, 2, 5, 0, 553)
def jm_m31 : jm_Mt := (⟨"TaperedNumbers$Reader", "noteLater", "(II)V"⟩, prog_3_method_13_code, 3, (Option.none : Option Jvm.ClassFile.FieldType), 1, 2, 1, 0, 557)
def jm_m32 : jm_Mt := (⟨"TaperedNumbers$Reader", "parseLine", "()V"⟩, prog_3_method_16_code, 4, (Option.none : Option Jvm.ClassFile.FieldType), 1, 0, 46, 0, 561)
def jm_m33 : jm_Mt := (⟨"TaperedNumbers$Reader", "indexOf", "(J)I"⟩, prog_3_method_17_code, 4, (Option.some Jvm.ClassFile.FieldType.int), 1, 1, 1, 0, 565)
def jm_m34 : jm_Mt := (⟨"TaperedNumbers$Reader", "parseExpr", "(I)V"⟩, prog_3_method_18_code, 5, (Option.none : Option Jvm.ClassFile.FieldType), 1, 1, 5, 4, 569)
def jm_m35 : jm_Mt := (⟨"TaperedNumbers$Reader", "parseTerm", "(I)V"⟩, prog_3_method_19_code, 4, (Option.none : Option Jvm.ClassFile.FieldType), 1, 1, 5, 3, 573)
def jm_m36 : jm_Mt := (⟨"TaperedNumbers$Reader", "parseAtom", "(I)V"⟩, prog_3_method_20_code, 2, (Option.none : Option Jvm.ClassFile.FieldType), 1, 1, 5, 2, 577)
def jm_m37 : jm_Mt := (⟨"TaperedNumbers$Text", "append", "(II)V"⟩, prog_11_method_2_code, 3, (Option.none : Option Jvm.ClassFile.FieldType), 9, 2, 1, 0, 581)
def jm_m38 : jm_Mt := (⟨"TaperedNumbers$Reader", "parseNameInExpr", "()V"⟩, prog_3_method_21_code, 2, (Option.none : Option Jvm.ClassFile.FieldType), 1, 0, 5, 0, 585)
def jm_m39 : jm_Mt := (⟨"TaperedNumbers$Reader", "parseOpened", "(I)V"⟩, prog_3_method_22_code, 2, (Option.none : Option Jvm.ClassFile.FieldType), 1, 1, 5, 1, 589)
def jm_m40 : jm_Mt := (⟨"TaperedNumbers$Reader", "parseSum", "(I)V"⟩, prog_3_method_23_code, 3, (Option.none : Option Jvm.ClassFile.FieldType), 1, 1, 5, 1, 593)
def jm_m41 : jm_Mt := (⟨"TaperedNumbers", "begin", "()V"⟩, prog_1_method_5_code, 3, (Option.none : Option Jvm.ClassFile.FieldType), 11, 0, 2, 0, 597)
def jm_m42 : jm_Mt := (⟨"TaperedNumbers$Sum", "wipe", "()V"⟩, prog_9_method_2_code, 2, (Option.none : Option Jvm.ClassFile.FieldType), 7, 0, 1, 0, 601)
def jm_m43 : jm_Mt := (⟨"TaperedNumbers$Worker", "workOut", "(LTaperedNumbers$Text;II[I)V"⟩, prog_12_method_2_code, 8, (Option.none : Option Jvm.ClassFile.FieldType), 10, 4, 7, 0, 605)
def jm_m44 : jm_Mt := (⟨"TaperedNumbers$Rounder", "ofWhole", "(III)I"⟩, prog_5_method_5_code, 4, (Option.some Jvm.ClassFile.FieldType.int), 3, 3, 6, 0, 609)
def jm_m45 : jm_Mt := (⟨"TaperedNumbers$Real", "putWhole", "(I)V"⟩, prog_4_method_5_code, 2, (Option.none : Option Jvm.ClassFile.FieldType), 2, 1, 2, 0, 613)
def jm_m46 : jm_Mt := (⟨"java/lang/Integer", "signum", "(I)I"⟩, prog_15_method_56_code, 1, (Option.some Jvm.ClassFile.FieldType.int), 13, 1, 1, 0, 616)
def jm_m47 : jm_Mt := (⟨"java/lang/Math", "abs", "(J)J"⟩, prog_17_method_61_code, 2, (Option.some Jvm.ClassFile.FieldType.long), 15, 1, 1, 0, 619)
def jm_m48 : jm_Mt := (⟨"TaperedNumbers$Real", "put", "(IJI)V"⟩, prog_4_method_3_code, 5, (Option.none : Option Jvm.ClassFile.FieldType), 2, 3, 1, 0, 623)
def jm_m49 : jm_Mt := (⟨"TaperedNumbers$Rounder", "rounded", "(IILTaperedNumbers$Real;)I"⟩, prog_5_method_13_code, 5, (Option.some Jvm.ClassFile.FieldType.int), 3, 3, 5, 0, 627)
def jm_m50 : jm_Mt := (⟨"TaperedNumbers$Row", "nil", "(I)I"⟩, prog_6_method_5_code, 1, (Option.some Jvm.ClassFile.FieldType.int), 4, 1, 1, 0, 630)
def jm_m51 : jm_Mt := (⟨"TaperedNumbers$Real", "take", "(LTaperedNumbers$Real;)V"⟩, prog_4_method_4_code, 2, (Option.none : Option Jvm.ClassFile.FieldType), 2, 1, 2, 0, 634)
def jm_m52 : jm_Mt := (⟨"TaperedNumbers$Real", "squeeze", "()V"⟩, prog_4_method_10_code, 2, (Option.none : Option Jvm.ClassFile.FieldType), 2, 0, 4, 0, 638)
def jm_m53 : jm_Mt := (⟨"TaperedNumbers$Real", "bitsOf", "(J)I"⟩, prog_4_method_7_code, 2, (Option.some Jvm.ClassFile.FieldType.int), 2, 1, 3, 0, 641)
def jm_m54 : jm_Mt := (⟨"java/lang/Long", "numberOfLeadingZeros", "(J)I"⟩, prog_16_method_48_code, 3, (Option.some Jvm.ClassFile.FieldType.int), 14, 1, 2, 0, 644)
def jm_m55 : jm_Mt := (⟨"java/lang/Integer", "numberOfLeadingZeros", "(I)I"⟩, prog_15_method_47_code, 2, (Option.some Jvm.ClassFile.FieldType.int), 13, 1, 1, 0, 647)
def jm_m56 : jm_Mt := (⟨"TaperedNumbers$Real", "moved", "(JI)J"⟩, prog_4_method_9_code, 5, (Option.some Jvm.ClassFile.FieldType.long), 2, 2, 2, 0, 651)
def jm_m57 : jm_Mt := (⟨"java/lang/Math", "min", "(II)I"⟩, prog_17_method_69_code, 2, (Option.some Jvm.ClassFile.FieldType.int), 15, 2, 1, 0, 654)
def jm_m58 : jm_Mt := (⟨"TaperedNumbers$Rounder", "roundedBare", "(II)I"⟩, prog_5_method_14_code, 8, (Option.some Jvm.ClassFile.FieldType.int), 3, 2, 4, 0, 658)
def jm_m59 : jm_Mt := (⟨"TaperedNumbers$Real", "scale", "()I"⟩, prog_4_method_8_code, 1, (Option.some Jvm.ClassFile.FieldType.int), 2, 0, 3, 0, 662)
def jm_m60 : jm_Mt := (⟨"TaperedNumbers$Row", "greatest", "(I)I"⟩, prog_6_method_7_code, 1, (Option.some Jvm.ClassFile.FieldType.int), 4, 1, 2, 0, 665)
def jm_m61 : jm_Mt := (⟨"TaperedNumbers$Rounder", "headOf", "(II)J"⟩, prog_5_method_16_code, 5, (Option.some Jvm.ClassFile.FieldType.long), 3, 2, 1, 0, 670)
def jm_m62 : jm_Mt := (⟨"TaperedNumbers$Rounder", "headBits", "(II)I"⟩, prog_5_method_15_code, 3, (Option.some Jvm.ClassFile.FieldType.int), 3, 2, 1, 0, 674)
def jm_m63 : jm_Mt := (⟨"TaperedNumbers$Rounder", "cut", "(JI)I"⟩, prog_5_method_17_code, 11, (Option.some Jvm.ClassFile.FieldType.int), 3, 2, 1, 0, 678)
def jm_m64 : jm_Mt := (⟨"TaperedNumbers$Row", "negative", "(II)I"⟩, prog_6_method_9_code, 2, (Option.some Jvm.ClassFile.FieldType.int), 4, 2, 1, 0, 681)
def jm_m65 : jm_Mt := (⟨"TaperedNumbers$Worker", "push", "(I)V"⟩, prog_12_method_4_code, 2, (Option.none : Option Jvm.ClassFile.FieldType), 10, 1, 1, 0, 685)
def jm_m66 : jm_Mt := (⟨"TaperedNumbers$Worker", "pop", "()I"⟩, prog_12_method_5_code, 1, (Option.some Jvm.ClassFile.FieldType.int), 10, 0, 1, 0, 689)
def jm_m67 : jm_Mt := (⟨"TaperedNumbers$Rounder", "ofRoot", "(III)I"⟩, prog_5_method_3_code, 4, (Option.some Jvm.ClassFile.FieldType.int), 3, 3, 6, 0, 694)
def jm_m68 : jm_Mt := (⟨"TaperedNumbers$Real", "takeRow", "(III)V"⟩, prog_4_method_6_code, 9, (Option.none : Option Jvm.ClassFile.FieldType), 2, 3, 3, 0, 698)
def jm_m69 : jm_Mt := (⟨"TaperedNumbers$Row", "isNil", "(II)Z"⟩, prog_6_method_6_code, 2, (Option.some Jvm.ClassFile.FieldType.boolean), 4, 2, 2, 0, 701)
def jm_m70 : jm_Mt := (⟨"TaperedNumbers$Real", "setNil", "()V"⟩, prog_4_method_2_code, 1, (Option.none : Option Jvm.ClassFile.FieldType), 2, 0, 2, 0, 705)
def jm_m71 : jm_Mt := (⟨"TaperedNumbers$Row", "bare", "(II)I"⟩, prog_6_method_13_code, 2, (Option.some Jvm.ClassFile.FieldType.int), 4, 2, 2, 0, 708)
def jm_m72 : jm_Mt := (⟨"TaperedNumbers$Row", "take", "(III)V"⟩, prog_6_method_14_code, 7, (Option.none : Option Jvm.ClassFile.FieldType), 4, 3, 2, 0, 713)
def jm_m73 : jm_Mt := (⟨"TaperedNumbers$Row", "runOf", "(II)I"⟩, prog_6_method_15_code, 5, (Option.some Jvm.ClassFile.FieldType.int), 4, 2, 1, 0, 716)
def jm_m74 : jm_Mt := (⟨"java/lang/Math", "max", "(II)I"⟩, prog_17_method_65_code, 2, (Option.some Jvm.ClassFile.FieldType.int), 15, 2, 1, 0, 719)
def jm_m75 : jm_Mt := (⟨"java/lang/Long", "numberOfTrailingZeros", "(J)I"⟩, prog_16_method_49_code, 3, (Option.some Jvm.ClassFile.FieldType.int), 14, 1, 2, 0, 722)
def jm_m76 : jm_Mt := (⟨"java/lang/Integer", "numberOfTrailingZeros", "(I)I"⟩, prog_15_method_48_code, 2, (Option.some Jvm.ClassFile.FieldType.int), 13, 1, 1, 0, 725)
def jm_m77 : jm_Mt := (⟨"TaperedNumbers$Rounder", "takeRoot", "()V"⟩, prog_5_method_11_code, 8, (Option.none : Option Jvm.ClassFile.FieldType), 3, 0, 3, 0, 729)
def jm_m78 : jm_Mt := (⟨"TaperedNumbers$Rounder", "wholeRoot", "(J)J"⟩, prog_5_method_12_code, 7, (Option.some Jvm.ClassFile.FieldType.long), 3, 1, 1, 0, 733)
def jm_m79 : jm_Mt := (⟨"TaperedNumbers$Worker", "addProducts", "(III)V"⟩, prog_12_method_3_code, 5, (Option.none : Option Jvm.ClassFile.FieldType), 10, 3, 6, 0, 738)
def jm_m80 : jm_Mt := (⟨"TaperedNumbers$Sum", "addProduct", "(LTaperedNumbers$Real;LTaperedNumbers$Real;Z)V"⟩, prog_9_method_5_code, 6, (Option.none : Option Jvm.ClassFile.FieldType), 7, 3, 3, 0, 744)
def jm_m81 : jm_Mt := (⟨"TaperedNumbers$Sum", "addBits", "(JIZ)V"⟩, prog_9_method_6_code, 19, (Option.none : Option Jvm.ClassFile.FieldType), 7, 3, 2, 0, 748)
def jm_m82 : jm_Mt := (⟨"TaperedNumbers$Sum", "negateWords", "()V"⟩, prog_9_method_7_code, 6, (Option.none : Option Jvm.ClassFile.FieldType), 7, 0, 1, 0, 754)
def jm_m83 : jm_Mt := (⟨"TaperedNumbers$Sum", "tell", "(LTaperedNumbers$Real;)V"⟩, prog_9_method_13_code, 7, (Option.none : Option Jvm.ClassFile.FieldType), 7, 1, 5, 0, 759)
def jm_m84 : jm_Mt := (⟨"TaperedNumbers$Sum", "highestBit", "()I"⟩, prog_9_method_8_code, 2, (Option.some Jvm.ClassFile.FieldType.int), 7, 0, 4, 0, 764)
def jm_m85 : jm_Mt := (⟨"TaperedNumbers$Sum", "bitAt", "(I)I"⟩, prog_9_method_11_code, 2, (Option.some Jvm.ClassFile.FieldType.int), 7, 1, 1, 0, 769)
def jm_m86 : jm_Mt := (⟨"TaperedNumbers$Sum", "hasBitBelow", "(I)Z"⟩, prog_9_method_12_code, 3, (Option.some Jvm.ClassFile.FieldType.boolean), 7, 1, 2, 0, 773)
def jm_m87 : jm_Mt := (⟨"TaperedNumbers$Rounder", "ofTwo", "(IIIII)I"⟩, prog_5_method_2_code, 6, (Option.some Jvm.ClassFile.FieldType.int), 3, 5, 6, 0, 779)
def jm_m88 : jm_Mt := (⟨"TaperedNumbers$Rounder", "addBoth", "()V"⟩, prog_5_method_8_code, 12, (Option.none : Option Jvm.ClassFile.FieldType), 3, 0, 4, 0, 783)
def jm_m89 : jm_Mt := (⟨"TaperedNumbers$Rounder", "multiplyBoth", "()V"⟩, prog_5_method_9_code, 1, (Option.none : Option Jvm.ClassFile.FieldType), 3, 0, 3, 0, 789)
def jm_m90 : jm_Mt := (⟨"TaperedNumbers$Rounder", "divideBoth", "()V"⟩, prog_5_method_10_code, 7, (Option.none : Option Jvm.ClassFile.FieldType), 3, 0, 3, 0, 793)
def jm_m91 : jm_Mt := (⟨"TaperedNumbers", "place", "()I"⟩, prog_1_method_6_code, 1, (Option.some Jvm.ClassFile.FieldType.int), 11, 0, 1, 0, 797)
def jm_m92 : jm_Mt := (⟨"TaperedNumbers", "resize", "(II)Z"⟩, prog_1_method_7_code, 3, (Option.some Jvm.ClassFile.FieldType.boolean), 11, 2, 8, 0, 801)
def jm_m93 : jm_Mt := (⟨"TaperedNumbers$Row", "isSize", "(II)Z"⟩, prog_6_method_2_code, 2, (Option.some Jvm.ClassFile.FieldType.boolean), 4, 2, 1, 0, 804)
def jm_m94 : jm_Mt := (⟨"TaperedNumbers", "remember", "()V"⟩, prog_1_method_11_code, 1, (Option.none : Option Jvm.ClassFile.FieldType), 11, 0, 3, 0, 808)
def jm_m95 : jm_Mt := (⟨"java/lang/Math", "floorMod", "(II)I"⟩, prog_17_method_50_code, 3, (Option.some Jvm.ClassFile.FieldType.int), 15, 2, 1, 0, 811)
def jm_m96 : jm_Mt := (⟨"TaperedNumbers$State", "take", "(LTaperedNumbers$State;)V"⟩, prog_8_method_2_code, 2, (Option.none : Option Jvm.ClassFile.FieldType), 6, 1, 2, 0, 815)
def jm_m97 : jm_Mt := (⟨"TaperedNumbers$Sum", "take", "(LTaperedNumbers$Sum;)V"⟩, prog_9_method_3_code, 3, (Option.none : Option Jvm.ClassFile.FieldType), 7, 1, 1, 0, 819)
def jm_m98 : jm_Mt := (⟨"TaperedNumbers", "store", "(IIZ)Z"⟩, prog_1_method_8_code, 4, (Option.some Jvm.ClassFile.FieldType.boolean), 11, 3, 4, 0, 823)
def jm_m99 : jm_Mt := (⟨"TaperedNumbers$Row", "isRow", "(III)Z"⟩, prog_6_method_3_code, 3, (Option.some Jvm.ClassFile.FieldType.boolean), 4, 3, 2, 0, 826)
def jm_m100 : jm_Mt := (⟨"TaperedNumbers", "clear", "()Z"⟩, prog_1_method_9_code, 1, (Option.some Jvm.ClassFile.FieldType.boolean), 11, 0, 6, 0, 833)
def jm_m101 : jm_Mt := (⟨"TaperedNumbers$Sum", "sign", "()I"⟩, prog_9_method_4_code, 1, (Option.some Jvm.ClassFile.FieldType.int), 7, 0, 5, 0, 837)
def jm_m102 : jm_Mt := (⟨"TaperedNumbers", "undo", "()Z"⟩, prog_1_method_10_code, 1, (Option.some Jvm.ClassFile.FieldType.boolean), 11, 0, 9, 0, 841)
def jm_m103 : jm_Mt := (⟨"TaperedNumbers", "goBackTo", "(LTaperedNumbers$State;)V"⟩, prog_1_method_12_code, 3, (Option.none : Option Jvm.ClassFile.FieldType), 11, 1, 8, 0, 845)
def jm_m104 : jm_Mt := (⟨"TaperedNumbers", "hold", "(I)Z"⟩, prog_1_method_13_code, 2, (Option.some Jvm.ClassFile.FieldType.boolean), 11, 1, 3, 0, 849)
def jm_m105 : jm_Mt := (⟨"TaperedNumbers$Tape", "take", "(LTaperedNumbers$Tape;)V"⟩, prog_10_method_4_code, 3, (Option.none : Option Jvm.ClassFile.FieldType), 8, 1, 2, 0, 853)
def jm_m106 : jm_Mt := (⟨"TaperedNumbers", "restore", "(I)Z"⟩, prog_1_method_14_code, 2, (Option.some Jvm.ClassFile.FieldType.boolean), 11, 1, 9, 0, 858)
def jm_m107 : jm_Mt := (⟨"TaperedNumbers", "row", "(IIII)I"⟩, prog_1_method_15_code, 5, (Option.some Jvm.ClassFile.FieldType.int), 11, 4, 5, 0, 862)
def jm_m108 : jm_Mt := (⟨"TaperedNumbers$Row", "ordered", "(II)I"⟩, prog_6_method_12_code, 2, (Option.some Jvm.ClassFile.FieldType.int), 4, 2, 2, 0, 868)
def jm_m109 : jm_Mt := (⟨"TaperedNumbers$Real", "whole", "()I"⟩, prog_4_method_11_code, 7, (Option.some Jvm.ClassFile.FieldType.int), 2, 0, 4, 0, 873)
def jm_m110 : jm_Mt := (⟨"java/lang/Math", "min", "(JJ)J"⟩, prog_17_method_70_code, 4, (Option.some Jvm.ClassFile.FieldType.long), 15, 2, 1, 0, 881)
def jm_m111 : jm_Mt := (⟨"TaperedNumbers$Row", "after", "(II)I"⟩, prog_6_method_10_code, 2, (Option.some Jvm.ClassFile.FieldType.int), 4, 2, 1, 0, 885)
def jm_m112 : jm_Mt := (⟨"TaperedNumbers$Row", "ahead", "(II)I"⟩, prog_6_method_11_code, 2, (Option.some Jvm.ClassFile.FieldType.int), 4, 2, 1, 0, 888)
def jm_m113 : jm_Mt := (⟨"TaperedNumbers", "partOf", "(IIII)I"⟩, prog_1_method_16_code, 5, (Option.some Jvm.ClassFile.FieldType.int), 11, 4, 4, 0, 892)
def jm_m114 : jm_Mt := (⟨"TaperedNumbers", "order", "(IIII)I"⟩, prog_1_method_17_code, 5, (Option.some Jvm.ClassFile.FieldType.int), 11, 4, 4, 0, 896)
def jm_m115 : jm_Mt := (⟨"TaperedNumbers$Row", "areRows", "(IIII)Z"⟩, prog_6_method_4_code, 4, (Option.some Jvm.ClassFile.FieldType.boolean), 4, 4, 3, 0, 899)
def jm_m116 : jm_Mt := (⟨"java/lang/Integer", "compare", "(II)I"⟩, prog_15_method_40_code, 2, (Option.some Jvm.ClassFile.FieldType.int), 13, 2, 1, 0, 903)
def jm_m117 : jm_Mt := (⟨"TaperedNumbers", "between", "(IIII)I"⟩, prog_1_method_18_code, 5, (Option.some Jvm.ClassFile.FieldType.int), 11, 4, 4, 0, 907)
def jm_m118 : jm_Mt := (⟨"TaperedNumbers", "written", "(IIII)I"⟩, prog_1_method_19_code, 5, (Option.some Jvm.ClassFile.FieldType.int), 11, 4, 4, 0, 912)
def jm_m119 : jm_Mt := (⟨"TaperedNumbers$Decimals", "write", "(LTaperedNumbers$Real;)V"⟩, prog_2_method_3_code, 9, (Option.none : Option Jvm.ClassFile.FieldType), 0, 1, 3, 0, 916)
def jm_m120 : jm_Mt := (⟨"TaperedNumbers$Decimals", "append", "(I)V"⟩, prog_2_method_5_code, 2, (Option.none : Option Jvm.ClassFile.FieldType), 0, 1, 1, 0, 920)
def jm_m121 : jm_Mt := (⟨"TaperedNumbers$Decimals", "appendWhole", "(J)V"⟩, prog_2_method_4_code, 6, (Option.none : Option Jvm.ClassFile.FieldType), 0, 1, 2, 0, 926)
def jm_m122 : jm_Mt := (⟨"TaperedNumbers$Decimals", "signAt", "(I)I"⟩, prog_2_method_2_code, 2, (Option.some Jvm.ClassFile.FieldType.int), 0, 1, 1, 0, 931)
def jm_m123 : jm_Mt := (⟨"TaperedNumbers", "near", "(IIIII)J"⟩, prog_1_method_20_code, 7, (Option.some Jvm.ClassFile.FieldType.long), 11, 5, 6, 0, 935)
def jm_m124 : jm_Mt := (⟨"TaperedNumbers$Real", "nearestBelow", "(I)I"⟩, prog_4_method_15_code, 8, (Option.some Jvm.ClassFile.FieldType.int), 2, 1, 5, 0, 940)
def jm_m125 : jm_Mt := (⟨"TaperedNumbers$Real", "missOf", "(I)J"⟩, prog_4_method_16_code, 2, (Option.some Jvm.ClassFile.FieldType.long), 2, 1, 4, 0, 944)
def jm_m126 : jm_Mt := (⟨"TaperedNumbers$Real", "overBits", "()J"⟩, prog_4_method_13_code, 1, (Option.some Jvm.ClassFile.FieldType.long), 2, 0, 2, 0, 948)
def jm_m127 : jm_Mt := (⟨"TaperedNumbers$Real", "nearestAbove", "(I)J"⟩, prog_4_method_14_code, 9, (Option.some Jvm.ClassFile.FieldType.long), 2, 1, 3, 0, 953)
def jm_m128 : jm_Mt := (⟨"TaperedNumbers$Real", "bitsBelow", "()I"⟩, prog_4_method_12_code, 1, (Option.some Jvm.ClassFile.FieldType.int), 2, 0, 2, 0, 957)
def jm_m129 : jm_Mt := (⟨"TaperedNumbers", "both", "(IIIII)I"⟩, prog_1_method_21_code, 6, (Option.some Jvm.ClassFile.FieldType.int), 11, 5, 7, 0, 962)
def jm_m130 : jm_Mt := (⟨"TaperedNumbers", "off", "(IIIII)I"⟩, prog_1_method_22_code, 6, (Option.some Jvm.ClassFile.FieldType.int), 11, 5, 7, 0, 967)
def jm_m131 : jm_Mt := (⟨"TaperedNumbers", "root", "(III)I"⟩, prog_1_method_23_code, 4, (Option.some Jvm.ClassFile.FieldType.int), 11, 3, 7, 0, 971)
def jm_m132 : jm_Mt := (⟨"TaperedNumbers", "turned", "(IIIII)I"⟩, prog_1_method_24_code, 6, (Option.some Jvm.ClassFile.FieldType.int), 11, 5, 6, 0, 976)
def jm_m133 : jm_Mt := (⟨"TaperedNumbers", "quotient", "(IIII)I"⟩, prog_1_method_25_code, 5, (Option.some Jvm.ClassFile.FieldType.int), 11, 4, 7, 0, 981)
def jm_m134 : jm_Mt := (⟨"TaperedNumbers", "isPart", "(I)Z"⟩, prog_1_method_26_code, 1, (Option.some Jvm.ClassFile.FieldType.boolean), 11, 1, 1, 0, 984)
def jm_m135 : jm_Mt := (⟨"TaperedNumbers$Rounder", "ofQuotient", "(IIII)I"⟩, prog_5_method_4_code, 5, (Option.some Jvm.ClassFile.FieldType.int), 3, 4, 6, 0, 990)
def jm_m136 : jm_Mt := (⟨"TaperedNumbers", "fused", "(IIIII)I"⟩, prog_1_method_27_code, 6, (Option.some Jvm.ClassFile.FieldType.int), 11, 5, 7, 0, 994)
def jm_m137 : jm_Mt := (⟨"TaperedNumbers$Rounder", "ofFused", "(IIIII)I"⟩, prog_5_method_7_code, 6, (Option.some Jvm.ClassFile.FieldType.int), 3, 5, 6, 0, 998)
def jm_m138 : jm_Mt := (⟨"TaperedNumbers", "steps", "(IIIII)I"⟩, prog_1_method_28_code, 10, (Option.some Jvm.ClassFile.FieldType.int), 11, 5, 8, 0, 1002)
def jm_m139 : jm_Mt := (⟨"TaperedNumbers", "stepFrom", "(IIII)I"⟩, prog_1_method_29_code, 6, (Option.some Jvm.ClassFile.FieldType.int), 11, 4, 7, 0, 1006)
def jm_m140 : jm_Mt := (⟨"TaperedNumbers$Rounder", "ofHalf", "(III)I"⟩, prog_5_method_6_code, 4, (Option.some Jvm.ClassFile.FieldType.int), 3, 3, 6, 0, 1010)
def jm_m141 : jm_Mt := (⟨"TaperedNumbers", "raised", "(IIII)I"⟩, prog_1_method_30_code, 7, (Option.some Jvm.ClassFile.FieldType.int), 11, 4, 7, 0, 1014)
def jm_m142 : jm_Mt := (⟨"TaperedNumbers$Row", "one", "(I)I"⟩, prog_6_method_8_code, 1, (Option.some Jvm.ClassFile.FieldType.int), 4, 1, 1, 0, 1017)
def jm_m143 : jm_Mt := (⟨"TaperedNumbers", "pairs", "(III)I"⟩, prog_1_method_31_code, 5, (Option.some Jvm.ClassFile.FieldType.int), 11, 3, 8, 0, 1021)
def jm_m144 : jm_Mt := (⟨"TaperedNumbers", "countExact", "(III)I"⟩, prog_1_method_32_code, 7, (Option.some Jvm.ClassFile.FieldType.int), 11, 3, 7, 0, 1025)
def jm_m145 : jm_Mt := (⟨"TaperedNumbers", "bit", "(I)I"⟩, prog_1_method_33_code, 2, (Option.some Jvm.ClassFile.FieldType.int), 11, 1, 3, 0, 1029)
def jm_m146 : jm_Mt := (⟨"TaperedNumbers$Sum", "bitOf", "(I)I"⟩, prog_9_method_10_code, 2, (Option.some Jvm.ClassFile.FieldType.int), 7, 1, 2, 0, 1033)
def jm_m147 : jm_Mt := (⟨"TaperedNumbers", "stored", "(II)I"⟩, prog_1_method_34_code, 3, (Option.some Jvm.ClassFile.FieldType.int), 11, 2, 6, 0, 1037)
def jm_m148 : jm_Mt := (⟨"TaperedNumbers", "let", "(II)I"⟩, prog_1_method_35_code, 3, (Option.some Jvm.ClassFile.FieldType.int), 11, 2, 5, 0, 1042)
def jm_m149 : jm_Mt := (⟨"TaperedNumbers", "count", "(I)I"⟩, prog_1_method_36_code, 2, (Option.some Jvm.ClassFile.FieldType.int), 11, 1, 6, 0, 1046)
def jm_m150 : jm_Mt := (⟨"TaperedNumbers", "nilNames", "()I"⟩, prog_1_method_37_code, 3, (Option.some Jvm.ClassFile.FieldType.int), 11, 0, 3, 0, 1050)
def jm_m151 : jm_Mt := (⟨"TaperedNumbers", "unlikeNames", "()I"⟩, prog_1_method_38_code, 5, (Option.some Jvm.ClassFile.FieldType.int), 11, 0, 1, 0, 1054)
def jm_m152 : jm_Mt := (⟨"TaperedNumbers", "fullSlots", "()I"⟩, prog_1_method_39_code, 3, (Option.some Jvm.ClassFile.FieldType.int), 11, 0, 1, 0, 1058)
def jm_m153 : jm_Mt := (⟨"TaperedNumbers$Sum", "topPower", "()I"⟩, prog_9_method_9_code, 1, (Option.some Jvm.ClassFile.FieldType.int), 7, 0, 5, 0, 1062)
def jm_m154 : jm_Mt := (⟨"TaperedNumbersModel", "<init>", "()V"⟩, prog_14_method_2_code, 1, (Option.none : Option Jvm.ClassFile.FieldType), 12, 0, 3, 0, 1067)
def jm_m155 : jm_Mt := (⟨"TaperedNumbersModel", "letters", "(IIIIIII)J"⟩, prog_14_method_10_code, 7, (Option.some Jvm.ClassFile.FieldType.long), 12, 7, 2, 0, 1071)
def jm_m156 : jm_Mt := (⟨"TaperedNumbersModel", "appends", "(JI)J"⟩, prog_14_method_9_code, 3, (Option.some Jvm.ClassFile.FieldType.long), 12, 2, 1, 0, 1074)
def jm_m157 : jm_Mt := (⟨"TaperedNumbersModel", "feed", "(IIIII)I"⟩, prog_14_method_3_code, 6, (Option.some Jvm.ClassFile.FieldType.int), 12, 5, 2, 0, 1266)
def jm_m158 : jm_Mt := (⟨"TaperedNumbersModel", "lays", "(I)V"⟩, prog_14_method_4_code, 3, (Option.none : Option Jvm.ClassFile.FieldType), 12, 1, 1, 0, 1270)
def jm_m159 : jm_Mt := (⟨"TaperedNumbersModel", "back", "(I)I"⟩, prog_14_method_5_code, 2, (Option.some Jvm.ClassFile.FieldType.int), 12, 1, 1, 0, 1274)
def jm_m160 : jm_Mt := (⟨"TaperedNumbersModel", "read", "()I"⟩, prog_14_method_20_code, 2, (Option.some Jvm.ClassFile.FieldType.int), 12, 0, 10, 0, 1278)
def jm_m161 : jm_Mt := (⟨"TaperedNumbersModel", "cutsText", "()V"⟩, prog_14_method_12_code, 8, (Option.none : Option Jvm.ClassFile.FieldType), 12, 0, 3, 0, 1282)
def jm_m162 : jm_Mt := (⟨"TaperedNumbersModel", "byteAt", "(I)I"⟩, prog_14_method_6_code, 2, (Option.some Jvm.ClassFile.FieldType.int), 12, 1, 1, 0, 1286)
def jm_m163 : jm_Mt := (⟨"TaperedNumbersModel", "token", "(IIIJ)V"⟩, prog_14_method_11_code, 6, (Option.none : Option Jvm.ClassFile.FieldType), 12, 4, 1, 0, 1290)
def jm_m164 : jm_Mt := (⟨"TaperedNumbersModel", "isLetter", "(I)Z"⟩, prog_14_method_8_code, 1, (Option.some Jvm.ClassFile.FieldType.boolean), 12, 1, 1, 0, 1293)
def jm_m165 : jm_Mt := (⟨"TaperedNumbersModel", "isDigit", "(I)Z"⟩, prog_14_method_7_code, 1, (Option.some Jvm.ClassFile.FieldType.boolean), 12, 1, 1, 0, 1296)
def jm_m166 : jm_Mt := (⟨"TaperedNumbersModel", "sign", "(II)I"⟩, prog_14_method_13_code, 3, (Option.some Jvm.ClassFile.FieldType.int), 12, 2, 2, 0, 1300)
def jm_m167 : jm_Mt := (⟨"TaperedNumbersModel", "kindOf", "(I)I"⟩, prog_14_method_14_code, 1, (Option.some Jvm.ClassFile.FieldType.int), 12, 1, 1, 0, 1303)
def jm_m168 : jm_Mt := (⟨"TaperedNumbersModel", "must", "(I)V"⟩, prog_14_method_19_code, 2, (Option.none : Option Jvm.ClassFile.FieldType), 12, 1, 3, 0, 1307)
def jm_m169 : jm_Mt := (⟨"TaperedNumbersModel", "is", "(I)Z"⟩, prog_14_method_15_code, 2, (Option.some Jvm.ClassFile.FieldType.boolean), 12, 1, 1, 0, 1311)
def jm_m170 : jm_Mt := (⟨"TaperedNumbersModel", "passes", "()V"⟩, prog_14_method_18_code, 1, (Option.none : Option Jvm.ClassFile.FieldType), 12, 0, 2, 0, 1315)
def jm_m171 : jm_Mt := (⟨"TaperedNumbersModel", "fail", "(I)V"⟩, prog_14_method_16_code, 2, (Option.none : Option Jvm.ClassFile.FieldType), 12, 1, 1, 0, 1319)
def jm_m172 : jm_Mt := (⟨"TaperedNumbersModel", "tellLine", "()V"⟩, prog_14_method_23_code, 1, (Option.none : Option Jvm.ClassFile.FieldType), 12, 0, 5, 0, 1323)
def jm_m173 : jm_Mt := (⟨"TaperedNumbersModel", "expression", "()V"⟩, prog_14_method_25_code, 4, (Option.none : Option Jvm.ClassFile.FieldType), 12, 0, 4, 0, 1327)
def jm_m174 : jm_Mt := (⟨"TaperedNumbersModel", "opens", "(I)V"⟩, prog_14_method_24_code, 2, (Option.none : Option Jvm.ClassFile.FieldType), 12, 1, 3, 0, 1331)
def jm_m175 : jm_Mt := (⟨"TaperedNumbersModel", "means", "()V"⟩, prog_14_method_26_code, 2, (Option.none : Option Jvm.ClassFile.FieldType), 12, 0, 5, 0, 1335)
def jm_m176 : jm_Mt := (⟨"TaperedNumbersModel", "in", "(III)Z"⟩, prog_14_method_37_code, 3, (Option.some Jvm.ClassFile.FieldType.boolean), 12, 3, 1, 0, 1338)
def jm_m177 : jm_Mt := (⟨"TaperedNumbersModel", "wrong", "(II)V"⟩, prog_14_method_17_code, 4, (Option.none : Option Jvm.ClassFile.FieldType), 12, 2, 1, 0, 1342)
def jm_m178 : jm_Mt := (⟨"TaperedNumbersModel", "meansLet", "(I)V"⟩, prog_14_method_32_code, 3, (Option.none : Option Jvm.ClassFile.FieldType), 12, 1, 4, 0, 1346)
def jm_m179 : jm_Mt := (⟨"TaperedNumbersModel", "named", "(J)I"⟩, prog_14_method_27_code, 4, (Option.some Jvm.ClassFile.FieldType.int), 12, 1, 1, 0, 1350)
def jm_m180 : jm_Mt := (⟨"TaperedNumbersModel", "meansToken", "(IZ)V"⟩, prog_14_method_33_code, 4, (Option.none : Option Jvm.ClassFile.FieldType), 12, 2, 3, 0, 1354)
def jm_m181 : jm_Mt := (⟨"TaperedNumbersModel", "step", "(II)V"⟩, prog_14_method_28_code, 3, (Option.none : Option Jvm.ClassFile.FieldType), 12, 2, 1, 0, 1358)
def jm_m182 : jm_Mt := (⟨"TaperedNumbersModel", "waitsFor", "(I)V"⟩, prog_14_method_31_code, 2, (Option.none : Option Jvm.ClassFile.FieldType), 12, 1, 1, 0, 1362)
def jm_m183 : jm_Mt := (⟨"TaperedNumbersModel", "settles", "(I)V"⟩, prog_14_method_30_code, 2, (Option.none : Option Jvm.ClassFile.FieldType), 12, 1, 2, 0, 1366)
def jm_m184 : jm_Mt := (⟨"TaperedNumbersModel", "rankOf", "(I)I"⟩, prog_14_method_29_code, 1, (Option.some Jvm.ClassFile.FieldType.int), 12, 1, 1, 0, 1369)
def jm_m185 : jm_Mt := (⟨"TaperedNumbersModel", "takesText", "()V"⟩, prog_14_method_21_code, 2, (Option.none : Option Jvm.ClassFile.FieldType), 12, 0, 9, 0, 1373)
def jm_m186 : jm_Mt := (⟨"TaperedNumbersModel", "works", "()V"⟩, prog_14_method_34_code, 2, (Option.none : Option Jvm.ClassFile.FieldType), 12, 0, 8, 0, 1377)
def jm_m187 : jm_Mt := (⟨"TaperedNumbersModel", "worksOne", "(III)I"⟩, prog_14_method_35_code, 7, (Option.some Jvm.ClassFile.FieldType.int), 12, 3, 7, 0, 1381)
def jm_m188 : jm_Mt := (⟨"TaperedNumbersModel", "wholeRow", "(III)I"⟩, prog_14_method_69_code, 4, (Option.some Jvm.ClassFile.FieldType.int), 12, 3, 6, 0, 1385)
def jm_m189 : jm_Mt := (⟨"TaperedNumbersModel", "roundsQuotient", "(IIJIJII)I"⟩, prog_14_method_68_code, 10, (Option.some Jvm.ClassFile.FieldType.int), 12, 7, 5, 0, 1389)
def jm_m190 : jm_Mt := (⟨"TaperedNumbersModel", "rounds", "(II)I"⟩, prog_14_method_65_code, 9, (Option.some Jvm.ClassFile.FieldType.int), 12, 2, 4, 0, 1393)
def jm_m191 : jm_Mt := (⟨"TaperedNumbersModel", "nil", "(I)I"⟩, prog_14_method_40_code, 1, (Option.some Jvm.ClassFile.FieldType.int), 12, 1, 1, 0, 1396)
def jm_m192 : jm_Mt := (⟨"TaperedNumbersModel", "against", "(III)I"⟩, prog_14_method_64_code, 4, (Option.some Jvm.ClassFile.FieldType.int), 12, 3, 3, 0, 1400)
def jm_m193 : jm_Mt := (⟨"TaperedNumbersModel", "opens", "(III)V"⟩, prog_14_method_54_code, 9, (Option.none : Option Jvm.ClassFile.FieldType), 12, 3, 2, 0, 1404)
def jm_m194 : jm_Mt := (⟨"TaperedNumbersModel", "negative", "(II)I"⟩, prog_14_method_42_code, 2, (Option.some Jvm.ClassFile.FieldType.int), 12, 2, 1, 0, 1407)
def jm_m195 : jm_Mt := (⟨"TaperedNumbersModel", "has", "(II)Z"⟩, prog_14_method_53_code, 2, (Option.some Jvm.ClassFile.FieldType.boolean), 12, 2, 1, 0, 1410)
def jm_m196 : jm_Mt := (⟨"TaperedNumbersModel", "compares", "(JIJI)I"⟩, prog_14_method_63_code, 12, (Option.some Jvm.ClassFile.FieldType.int), 12, 4, 2, 0, 1413)
def jm_m197 : jm_Mt := (⟨"TaperedNumbersModel", "lengthOf", "(J)I"⟩, prog_14_method_62_code, 3, (Option.some Jvm.ClassFile.FieldType.int), 12, 1, 1, 0, 1416)
def jm_m198 : jm_Mt := (⟨"TaperedNumbersModel", "laysDigits", "([IJI)V"⟩, prog_14_method_57_code, 7, (Option.none : Option Jvm.ClassFile.FieldType), 12, 3, 1, 0, 1419)
def jm_m199 : jm_Mt := (⟨"TaperedNumbersModel", "compares", "([I[I)I"⟩, prog_14_method_58_code, 3, (Option.some Jvm.ClassFile.FieldType.int), 12, 2, 1, 0, 1423)
def jm_m200 : jm_Mt := (⟨"TaperedNumbersModel", "signed", "(III)I"⟩, prog_14_method_66_code, 4, (Option.some Jvm.ClassFile.FieldType.int), 12, 3, 2, 0, 1427)
def jm_m201 : jm_Mt := (⟨"TaperedNumbersModel", "rootOf", "(III)I"⟩, prog_14_method_70_code, 4, (Option.some Jvm.ClassFile.FieldType.int), 12, 3, 5, 0, 1431)
def jm_m202 : jm_Mt := (⟨"TaperedNumbersModel", "sumOf", "(IIII)I"⟩, prog_14_method_36_code, 6, (Option.some Jvm.ClassFile.FieldType.int), 12, 4, 6, 0, 1435)
def jm_m203 : jm_Mt := (⟨"TaperedNumbersModel", "clears", "()V"⟩, prog_14_method_56_code, 2, (Option.none : Option Jvm.ClassFile.FieldType), 12, 0, 1, 0, 1439)
def jm_m204 : jm_Mt := (⟨"TaperedNumbersModel", "isNil", "(II)Z"⟩, prog_14_method_41_code, 2, (Option.some Jvm.ClassFile.FieldType.boolean), 12, 2, 2, 0, 1442)
def jm_m205 : jm_Mt := (⟨"TaperedNumbersModel", "addsProduct", "(IIIII)V"⟩, prog_14_method_61_code, 9, (Option.none : Option Jvm.ClassFile.FieldType), 12, 5, 4, 0, 1446)
def jm_m206 : jm_Mt := (⟨"TaperedNumbersModel", "signOf", "(II)I"⟩, prog_14_method_43_code, 2, (Option.some Jvm.ClassFile.FieldType.int), 12, 2, 3, 0, 1449)
def jm_m207 : jm_Mt := (⟨"TaperedNumbersModel", "adds", "(JII)V"⟩, prog_14_method_59_code, 9, (Option.none : Option Jvm.ClassFile.FieldType), 12, 3, 2, 0, 1453)
def jm_m208 : jm_Mt := (⟨"TaperedNumbersModel", "roundsSum", "(II)I"⟩, prog_14_method_67_code, 3, (Option.some Jvm.ClassFile.FieldType.int), 12, 2, 5, 0, 1458)
def jm_m209 : jm_Mt := (⟨"TaperedNumbersModel", "worked", "(IIIII)I"⟩, prog_14_method_71_code, 10, (Option.some Jvm.ClassFile.FieldType.int), 12, 5, 6, 0, 1462)
def jm_m210 : jm_Mt := (⟨"TaperedNumbersModel", "addsRow", "(IIII)V"⟩, prog_14_method_60_code, 5, (Option.none : Option Jvm.ClassFile.FieldType), 12, 4, 4, 0, 1466)
def jm_m211 : jm_Mt := (⟨"TaperedNumbersModel", "place", "()I"⟩, prog_14_method_22_code, 1, (Option.some Jvm.ClassFile.FieldType.int), 12, 0, 1, 0, 1470)
def jm_m212 : jm_Mt := (⟨"TaperedNumbersModel", "undo", "()Z"⟩, prog_14_method_46_code, 1, (Option.some Jvm.ClassFile.FieldType.boolean), 12, 0, 10, 0, 1474)
def jm_m213 : jm_Mt := (⟨"TaperedNumbersModel", "lays", "([II)V"⟩, prog_14_method_45_code, 4, (Option.none : Option Jvm.ClassFile.FieldType), 12, 2, 9, 0, 1478)
def jm_m214 : jm_Mt := (⟨"TaperedNumbersModel", "hold", "(I)Z"⟩, prog_14_method_47_code, 3, (Option.some Jvm.ClassFile.FieldType.boolean), 12, 1, 2, 0, 1482)
def jm_m215 : jm_Mt := (⟨"TaperedNumbersModel", "restore", "(I)Z"⟩, prog_14_method_48_code, 2, (Option.some Jvm.ClassFile.FieldType.boolean), 12, 1, 10, 0, 1486)
def jm_m216 : jm_Mt := (⟨"TaperedNumbersModel", "resize", "(II)Z"⟩, prog_14_method_49_code, 3, (Option.some Jvm.ClassFile.FieldType.boolean), 12, 2, 9, 0, 1490)
def jm_m217 : jm_Mt := (⟨"TaperedNumbersModel", "isKind", "(II)Z"⟩, prog_14_method_38_code, 2, (Option.some Jvm.ClassFile.FieldType.boolean), 12, 2, 2, 0, 1493)
def jm_m218 : jm_Mt := (⟨"TaperedNumbersModel", "marks", "()V"⟩, prog_14_method_44_code, 3, (Option.none : Option Jvm.ClassFile.FieldType), 12, 0, 1, 0, 1497)
def jm_m219 : jm_Mt := (⟨"TaperedNumbersModel", "store", "(IIZ)Z"⟩, prog_14_method_50_code, 6, (Option.some Jvm.ClassFile.FieldType.boolean), 12, 3, 5, 0, 1501)
def jm_m220 : jm_Mt := (⟨"TaperedNumbersModel", "isRow", "(III)Z"⟩, prog_14_method_39_code, 3, (Option.some Jvm.ClassFile.FieldType.boolean), 12, 3, 3, 0, 1504)
def jm_m221 : jm_Mt := (⟨"TaperedNumbersModel", "bringsStore", "()V"⟩, prog_14_method_51_code, 2, (Option.none : Option Jvm.ClassFile.FieldType), 12, 0, 1, 0, 1508)
def jm_m222 : jm_Mt := (⟨"TaperedNumbersModel", "clear", "()Z"⟩, prog_14_method_52_code, 2, (Option.some Jvm.ClassFile.FieldType.boolean), 12, 0, 2, 0, 1512)
def jm_m223 : jm_Mt := (⟨"TaperedNumbersModel", "both", "(IIIII)I"⟩, prog_14_method_72_code, 6, (Option.some Jvm.ClassFile.FieldType.int), 12, 5, 7, 0, 1516)
def jm_m224 : jm_Mt := (⟨"TaperedNumbersModel", "off", "(IIIII)I"⟩, prog_14_method_73_code, 7, (Option.some Jvm.ClassFile.FieldType.int), 12, 5, 7, 0, 1520)
def jm_m225 : jm_Mt := (⟨"TaperedNumbersModel", "root", "(III)I"⟩, prog_14_method_74_code, 4, (Option.some Jvm.ClassFile.FieldType.int), 12, 3, 6, 0, 1524)
def jm_m226 : jm_Mt := (⟨"TaperedNumbersModel", "turned", "(IIIII)I"⟩, prog_14_method_75_code, 6, (Option.some Jvm.ClassFile.FieldType.int), 12, 5, 7, 0, 1528)
def jm_m227 : jm_Mt := (⟨"TaperedNumbersModel", "halves", "(IIIIII)I"⟩, prog_14_method_76_code, 8, (Option.some Jvm.ClassFile.FieldType.int), 12, 6, 6, 0, 1532)
def jm_m228 : jm_Mt := (⟨"TaperedNumbersModel", "quotient", "(IIII)I"⟩, prog_14_method_77_code, 5, (Option.some Jvm.ClassFile.FieldType.int), 12, 4, 6, 0, 1536)
def jm_m229 : jm_Mt := (⟨"TaperedNumbersModel", "fused", "(IIIII)I"⟩, prog_14_method_78_code, 6, (Option.some Jvm.ClassFile.FieldType.int), 12, 5, 6, 0, 1542)
def jm_m230 : jm_Mt := (⟨"TaperedNumbersModel", "order", "(IIII)I"⟩, prog_14_method_80_code, 7, (Option.some Jvm.ClassFile.FieldType.int), 12, 4, 4, 0, 1546)
def jm_m231 : jm_Mt := (⟨"TaperedNumbersModel", "placed", "(II)I"⟩, prog_14_method_79_code, 2, (Option.some Jvm.ClassFile.FieldType.int), 12, 2, 2, 0, 1549)
def jm_m232 : jm_Mt := (⟨"TaperedNumbersModel", "between", "(IIII)I"⟩, prog_14_method_81_code, 6, (Option.some Jvm.ClassFile.FieldType.int), 12, 4, 4, 0, 1553)
def jm_m233 : jm_Mt := (⟨"TaperedNumbersModel", "row", "(IIII)I"⟩, prog_14_method_83_code, 5, (Option.some Jvm.ClassFile.FieldType.int), 12, 4, 5, 0, 1557)
def jm_m234 : jm_Mt := (⟨"TaperedNumbersModel", "wholeOf", "(III)I"⟩, prog_14_method_82_code, 10, (Option.some Jvm.ClassFile.FieldType.int), 12, 3, 4, 0, 1562)
def jm_m235 : jm_Mt := (⟨"TaperedNumbersModel", "reduces", "()V"⟩, prog_14_method_55_code, 1, (Option.none : Option Jvm.ClassFile.FieldType), 12, 0, 1, 0, 1568)
def jm_m236 : jm_Mt := (⟨"TaperedNumbersModel", "partOf", "(I)I"⟩, prog_14_method_84_code, 2, (Option.some Jvm.ClassFile.FieldType.int), 12, 1, 1, 0, 1572)
def jm_m237 : jm_Mt := (⟨"TaperedNumbersModel", "written", "(IIII)I"⟩, prog_14_method_88_code, 5, (Option.some Jvm.ClassFile.FieldType.int), 12, 4, 5, 0, 1576)
def jm_m238 : jm_Mt := (⟨"TaperedNumbersModel", "writesRow", "(III)V"⟩, prog_14_method_87_code, 8, (Option.none : Option Jvm.ClassFile.FieldType), 12, 3, 4, 0, 1580)
def jm_m239 : jm_Mt := (⟨"TaperedNumbersModel", "writes", "(I)V"⟩, prog_14_method_85_code, 2, (Option.none : Option Jvm.ClassFile.FieldType), 12, 1, 1, 0, 1584)
def jm_m240 : jm_Mt := (⟨"TaperedNumbersModel", "writesWhole", "(J)V"⟩, prog_14_method_86_code, 5, (Option.none : Option Jvm.ClassFile.FieldType), 12, 1, 2, 0, 1588)
def jm_m241 : jm_Mt := (⟨"TaperedNumbersModel", "steps", "(IIIII)I"⟩, prog_14_method_90_code, 10, (Option.some Jvm.ClassFile.FieldType.int), 12, 5, 8, 0, 1594)
def jm_m242 : jm_Mt := (⟨"TaperedNumbersModel", "stepOf", "(IIII)I"⟩, prog_14_method_89_code, 6, (Option.some Jvm.ClassFile.FieldType.int), 12, 4, 7, 0, 1598)
def jm_m243 : jm_Mt := (⟨"TaperedNumbersModel", "raised", "(IIII)I"⟩, prog_14_method_91_code, 7, (Option.some Jvm.ClassFile.FieldType.int), 12, 4, 7, 0, 1602)
def jm_m244 : jm_Mt := (⟨"TaperedNumbersModel", "near", "(IIIII)J"⟩, prog_14_method_93_code, 8, (Option.some Jvm.ClassFile.FieldType.long), 12, 5, 4, 0, 1606)
def jm_m245 : jm_Mt := (⟨"TaperedNumbersModel", "nearest", "(JIII)J"⟩, prog_14_method_92_code, 22, (Option.some Jvm.ClassFile.FieldType.long), 12, 4, 1, 0, 1611)
def jm_m246 : jm_Mt := (⟨"TaperedNumbersModel", "bit", "(I)I"⟩, prog_14_method_94_code, 3, (Option.some Jvm.ClassFile.FieldType.int), 12, 1, 2, 0, 1615)
def jm_m247 : jm_Mt := (⟨"TaperedNumbersModel", "stored", "(II)I"⟩, prog_14_method_95_code, 3, (Option.some Jvm.ClassFile.FieldType.int), 12, 2, 6, 0, 1619)
def jm_m248 : jm_Mt := (⟨"TaperedNumbersModel", "pairs", "(III)I"⟩, prog_14_method_98_code, 8, (Option.some Jvm.ClassFile.FieldType.int), 12, 3, 7, 0, 1623)
def jm_m249 : jm_Mt := (⟨"TaperedNumbersModel", "let", "(II)I"⟩, prog_14_method_99_code, 5, (Option.some Jvm.ClassFile.FieldType.int), 12, 2, 5, 0, 1627)
def jm_m250 : jm_Mt := (⟨"TaperedNumbersModel", "count", "(I)I"⟩, prog_14_method_102_code, 2, (Option.some Jvm.ClassFile.FieldType.int), 12, 1, 4, 0, 1631)
def jm_m251 : jm_Mt := (⟨"TaperedNumbersModel", "nilNames", "()I"⟩, prog_14_method_100_code, 3, (Option.some Jvm.ClassFile.FieldType.int), 12, 0, 3, 0, 1635)
def jm_m252 : jm_Mt := (⟨"TaperedNumbersModel", "unlikeNames", "()I"⟩, prog_14_method_101_code, 5, (Option.some Jvm.ClassFile.FieldType.int), 12, 0, 1, 0, 1639)
def jm_m253 : jm_Mt := (⟨"TaperedNumbersModel", "greatestPower", "()I"⟩, prog_14_method_96_code, 2, (Option.some Jvm.ClassFile.FieldType.int), 12, 0, 2, 0, 1643)
def jm_m254 : jm_Mt := (⟨"TaperedNumbersModel", "storeWhole", "()I"⟩, prog_14_method_97_code, 6, (Option.some Jvm.ClassFile.FieldType.int), 12, 0, 1, 0, 1647)
def jm_m255 : jm_Mt := (⟨"TaperedNumbersLaw", "law", "([I)Z"⟩, code, 4, (Option.some Jvm.ClassFile.FieldType.boolean), 17, 1, 49, 0, 0)
def jm_ms : List jm_Mt := [jm_m0, jm_m1, jm_m2, jm_m3, jm_m4, jm_m5, jm_m6, jm_m7, jm_m8, jm_m9, jm_m10, jm_m11, jm_m12, jm_m13, jm_m14, jm_m15, jm_m16, jm_m17, jm_m18, jm_m19, jm_m20, jm_m21, jm_m22, jm_m23, jm_m24, jm_m25, jm_m26, jm_m27, jm_m28, jm_m29, jm_m30, jm_m31, jm_m32, jm_m33, jm_m34, jm_m35, jm_m36, jm_m37, jm_m38, jm_m39, jm_m40, jm_m41, jm_m42, jm_m43, jm_m44, jm_m45, jm_m46, jm_m47, jm_m48, jm_m49, jm_m50, jm_m51, jm_m52, jm_m53, jm_m54, jm_m55, jm_m56, jm_m57, jm_m58, jm_m59, jm_m60, jm_m61, jm_m62, jm_m63, jm_m64, jm_m65, jm_m66, jm_m67, jm_m68, jm_m69, jm_m70, jm_m71, jm_m72, jm_m73, jm_m74, jm_m75, jm_m76, jm_m77, jm_m78, jm_m79, jm_m80, jm_m81, jm_m82, jm_m83, jm_m84, jm_m85, jm_m86, jm_m87, jm_m88, jm_m89, jm_m90, jm_m91, jm_m92, jm_m93, jm_m94, jm_m95, jm_m96, jm_m97, jm_m98, jm_m99, jm_m100, jm_m101, jm_m102, jm_m103, jm_m104, jm_m105, jm_m106, jm_m107, jm_m108, jm_m109, jm_m110, jm_m111, jm_m112, jm_m113, jm_m114, jm_m115, jm_m116, jm_m117, jm_m118, jm_m119, jm_m120, jm_m121, jm_m122, jm_m123, jm_m124, jm_m125, jm_m126, jm_m127, jm_m128, jm_m129, jm_m130, jm_m131, jm_m132, jm_m133, jm_m134, jm_m135, jm_m136, jm_m137, jm_m138, jm_m139, jm_m140, jm_m141, jm_m142, jm_m143, jm_m144, jm_m145, jm_m146, jm_m147, jm_m148, jm_m149, jm_m150, jm_m151, jm_m152, jm_m153, jm_m154, jm_m155, jm_m156, jm_m157, jm_m158, jm_m159, jm_m160, jm_m161, jm_m162, jm_m163, jm_m164, jm_m165, jm_m166, jm_m167, jm_m168, jm_m169, jm_m170, jm_m171, jm_m172, jm_m173, jm_m174, jm_m175, jm_m176, jm_m177, jm_m178, jm_m179, jm_m180, jm_m181, jm_m182, jm_m183, jm_m184, jm_m185, jm_m186, jm_m187, jm_m188, jm_m189, jm_m190, jm_m191, jm_m192, jm_m193, jm_m194, jm_m195, jm_m196, jm_m197, jm_m198, jm_m199, jm_m200, jm_m201, jm_m202, jm_m203, jm_m204, jm_m205, jm_m206, jm_m207, jm_m208, jm_m209, jm_m210, jm_m211, jm_m212, jm_m213, jm_m214, jm_m215, jm_m216, jm_m217, jm_m218, jm_m219, jm_m220, jm_m221, jm_m222, jm_m223, jm_m224, jm_m225, jm_m226, jm_m227, jm_m228, jm_m229, jm_m230, jm_m231, jm_m232, jm_m233, jm_m234, jm_m235, jm_m236, jm_m237, jm_m238, jm_m239, jm_m240, jm_m241, jm_m242, jm_m243, jm_m244, jm_m245, jm_m246, jm_m247, jm_m248, jm_m249, jm_m250, jm_m251, jm_m252, jm_m253, jm_m254, jm_m255]
def jm_c0 : List (Nat × Instr) := [(0, .aload_n 0), (1, .invokespecial 1), (4, .aload_n 0), (5, .new 7), (8, .dup), (9, .invokespecial 9), (12, .putfield 10), (15, .aload_n 0), (16, .aload_n 0), (17, .getfield 10), (20, .getfield 16), (23, .putfield 20), (26, .aload_n 0), (27, .new 21), (30, .dup), (31, .invokespecial 23), (34, .putfield 24), (37, .aload_n 0), (38, .aload_n 0), (39, .getfield 24), (42, .getfield 28), (45, .putfield 32), (48, .aload_n 0), (49, .new 33), (52, .dup), (53, .invokespecial 35), (56, .putfield 36), (59, .aload_n 0), (60, .new 40), (63, .dup), (64, .invokespecial 42), (67, .putfield 43), (70, .aload_n 0), (71, .new 40), (74, .dup), (75, .invokespecial 42), (78, .putfield 47), (81, .aload_n 0), (82, .new 50), (85, .dup), (86, .invokespecial 52), (89, .putfield 53), (92, .aload_n 0), (93, .bipush 40), (95, .anewarray 50), (98, .putfield 57), (101, .iconst 0), (102, .istore_n 1), (103, .iload_n 1), (104, .aload_n 0), (105, .getfield 57), (108, .arraylength), (109, .if_icmp .ge 22), (112, .aload_n 0), (113, .getfield 57), (116, .iload_n 1), (117, .new 50), (120, .dup), (121, .invokespecial 52), (124, .aastore), (125, .iinc 1 1), (128, .goto (-25)), (131, .aload_n 0), (132, .iconst 3), (133, .anewarray 61), (136, .putfield 63), (139, .iconst 0), (140, .istore_n 1), (141, .iload_n 1), (142, .aload_n 0), (143, .getfield 63), (146, .arraylength), (147, .if_icmp .ge 22), (150, .aload_n 0), (151, .getfield 63), (154, .iload_n 1), (155, .new 61), (158, .dup), (159, .invokespecial 67), (162, .aastore), (163, .iinc 1 1), (166, .goto (-25)), (169, .aload_n 0), (170, .bipush 8), (172, .newarray .int), (174, .putfield 68), (177, .aload_n 0), (178, .sipush 4096), (181, .newarray .int), (183, .putfield 72), (186, .aload_n 0), (187, .bipush 36), (189, .newarray .int), (191, .putfield 75), (194, .aload_n 0), (195, .getfield 75), (198, .iconst (-1)), (199, .invokestatic 78), (202, .aload_n 0), (203, .new 84), (206, .dup), (207, .invokespecial 86), (210, .putfield 87), (213, .aload_n 0), (214, .iconst (-1)), (215, .putfield 91), (218, .return_)]
def jm_c1 : List (Nat × Instr) := [(0, .aload_n 0), (1, .invokespecial 3), (4, .aload_n 0), (5, .new 9), (8, .dup), (9, .invokespecial 11), (12, .putfield 12), (15, .aload_n 0), (16, .bipush 8), (18, .newarray .long), (20, .putfield 18), (23, .aload_n 0), (24, .new 22), (27, .dup), (28, .invokespecial 24), (31, .putfield 25), (34, .return_)]
def jm_c2 : List (Nat × Instr) := [(0, .aload_n 0), (1, .invokespecial 3), (4, .aload_n 0), (5, .sipush 2000), (8, .newarray .byte), (10, .putfield 9), (13, .return_)]
def jm_c3 : List (Nat × Instr) := [(0, .aload_n 0), (1, .invokespecial 3), (4, .aload_n 0), (5, .sipush 400), (8, .newarray .int), (10, .putfield 9), (13, .aload_n 0), (14, .sipush 400), (17, .newarray .int), (19, .putfield 15), (22, .return_)]
def jm_c4 : List (Nat × Instr) := [(0, .aload_n 0), (1, .invokespecial 3), (4, .aload_n 0), (5, .new 9), (8, .dup), (9, .invokespecial 11), (12, .putfield 12), (15, .aload_n 0), (16, .new 18), (19, .dup), (20, .invokespecial 20), (23, .putfield 21), (26, .aload_n 0), (27, .new 25), (30, .dup), (31, .invokespecial 27), (34, .putfield 28), (37, .aload_n 0), (38, .new 25), (41, .dup), (42, .invokespecial 27), (45, .putfield 32), (48, .aload_n 0), (49, .sipush 400), (52, .newarray .int), (54, .putfield 35), (57, .return_)]
def jm_c5 : List (Nat × Instr) := [(0, .aload_n 0), (1, .invokespecial 3), (4, .aload_n 0), (5, .new 9), (8, .dup), (9, .invokespecial 11), (12, .putfield 12), (15, .aload_n 0), (16, .new 9), (19, .dup), (20, .invokespecial 11), (23, .putfield 18), (26, .aload_n 0), (27, .new 9), (30, .dup), (31, .invokespecial 11), (34, .putfield 21), (37, .return_)]
def jm_c6 : List (Nat × Instr) := [(0, .aload_n 0), (1, .invokespecial 3), (4, .aload_n 0), (5, .new 9), (8, .dup), (9, .invokespecial 11), (12, .putfield 12), (15, .return_)]
def jm_c7 : List (Nat × Instr) := [(0, .aload_n 0), (1, .invokespecial 1), (4, .return_)]
def jm_c8 : List (Nat × Instr) := [(0, .aload_n 0), (1, .invokespecial 3), (4, .aload_n 0), (5, .bipush 7), (7, .newarray .long), (9, .putfield 9), (12, .return_)]
def jm_c9 : List (Nat × Instr) := [(0, .aload_n 0), (1, .invokespecial 3), (4, .aload_n 0), (5, .bipush 80), (7, .newarray .byte), (9, .putfield 9), (12, .return_)]
def jm_c10 : List (Nat × Instr) := [(0, .aload_n 0), (1, .invokespecial 1), (4, .aload_n 0), (5, .new 7), (8, .dup), (9, .invokespecial 9), (12, .putfield 10), (15, .aload_n 0), (16, .bipush 8), (18, .putfield 16), (21, .aload_n 0), (22, .iconst 1), (23, .putfield 20), (26, .return_)]
def jm_c11 : List (Nat × Instr) := [(0, .aload_n 0), (1, .invokespecial 1), (4, .aload_n 0), (5, .new 7), (8, .dup), (9, .invokespecial 9), (12, .putfield 10), (15, .aload_n 0), (16, .new 16), (19, .dup), (20, .invokespecial 18), (23, .putfield 19), (26, .return_)]
def jm_c12 : List (Nat × Instr) := [(0, .iconst 0), (1, .istore_n 2), (2, .aload_n 0), (3, .arraylength), (4, .istore_n 3), (5, .iload_n 2), (6, .iload_n 3), (7, .if_icmp .ge 13), (10, .aload_n 0), (11, .iload_n 2), (12, .iload_n 1), (13, .iastore), (14, .iinc 2 1), (17, .goto (-12)), (20, .return_)]
def jm_c13 : List (Nat × Instr) := [(0, .aload_n 0), (1, .getfield 20), (4, .getfield 95), (7, .bipush 20), (9, .iadd), (10, .sipush 2000), (13, .if_icmp .le 5), (16, .iconst (-1)), (17, .ireturn), (18, .aload_n 0), (19, .getfield 20), (22, .iload_n 1), (23, .invokevirtual 100), (26, .aload_n 0), (27, .getfield 20), (30, .iload_n 2), (31, .invokevirtual 100), (34, .aload_n 0), (35, .getfield 20), (38, .iload_n 3), (39, .invokevirtual 100), (42, .aload_n 0), (43, .getfield 20), (46, .iload 4), (48, .invokevirtual 100), (51, .aload_n 0), (52, .getfield 20), (55, .iload 5), (57, .invokevirtual 100), (60, .aload_n 0), (61, .getfield 20), (64, .getfield 95), (67, .ireturn)]
def jm_c14 : List (Nat × Instr) := [(0, .bipush 24), (2, .istore_n 2), (3, .iload_n 2), (4, .ifCond .lt 44), (7, .aload_n 0), (8, .getfield 15), (11, .aload_n 0), (12, .getfield 9), (15, .arraylength), (16, .if_icmp .ge 26), (19, .aload_n 0), (20, .getfield 9), (23, .aload_n 0), (24, .getfield 15), (27, .iload_n 1), (28, .iload_n 2), (29, .ishr), (30, .i2b), (31, .bastore), (32, .aload_n 0), (33, .dup), (34, .getfield 15), (37, .iconst 1), (38, .iadd), (39, .putfield 15), (42, .iinc 2 (-8)), (45, .goto (-42)), (48, .return_)]
def jm_c15 : List (Nat × Instr) := [(0, .iload_n 1), (1, .ifCond .lt 14), (4, .iload_n 1), (5, .aload_n 0), (6, .getfield 20), (9, .getfield 95), (12, .if_icmp .le 5), (15, .iconst (-1)), (16, .ireturn), (17, .aload_n 0), (18, .getfield 20), (21, .dup), (22, .getfield 95), (25, .iload_n 1), (26, .isub), (27, .putfield 95), (30, .aload_n 0), (31, .getfield 20), (34, .getfield 95), (37, .ireturn)]
def jm_c16 : List (Nat × Instr) := [(0, .aload_n 0), (1, .getfield 10), (4, .invokevirtual 104), (7, .istore_n 1), (8, .aload_n 0), (9, .iload_n 1), (10, .ifCond .ne 7), (13, .iconst (-1)), (14, .goto 10), (17, .aload_n 0), (18, .getfield 10), (21, .getfield 108), (24, .putfield 91), (27, .aload_n 0), (28, .getfield 20), (31, .iconst 0), (32, .putfield 95), (35, .iload_n 1), (36, .ifCond .ne 36), (39, .aload_n 0), (40, .invokevirtual 111), (43, .aload_n 0), (44, .getfield 24), (47, .aload_n 0), (48, .getfield 87), (51, .aload_n 0), (52, .getfield 53), (55, .getfield 114), (58, .aload_n 0), (59, .getfield 53), (62, .getfield 117), (65, .aload_n 0), (66, .getfield 68), (69, .invokevirtual 120), (72, .iload_n 1), (73, .ireturn)]
def jm_c17 : List (Nat × Instr) := [(0, .aload_n 0), (1, .invokevirtual 29), (4, .aload_n 0), (5, .iconst 4), (6, .invokevirtual 32), (9, .pop), (10, .aload_n 0), (11, .getfield 25), (14, .aload_n 0), (15, .iconst 3), (16, .bipush 12), (18, .invokevirtual 36), (21, .putfield 40), (24, .aload_n 0), (25, .getfield 25), (28, .aload_n 0), (29, .iconst 0), (30, .iconst 2), (31, .invokevirtual 36), (34, .putfield 44), (37, .aload_n 0), (38, .bipush 59), (40, .invokevirtual 32), (43, .pop), (44, .iconst 0), (45, .istore_n 1), (46, .iload_n 1), (47, .bipush 8), (49, .if_icmp .gt 21), (52, .aload_n 0), (53, .getfield 47), (56, .iconst 5), (57, .if_icmp .ne 13), (60, .aload_n 0), (61, .invokevirtual 50), (64, .iinc 1 1), (67, .goto (-21)), (70, .aload_n 0), (71, .getfield 47), (74, .ifCond .eq 8), (77, .aload_n 0), (78, .iconst 1), (79, .invokevirtual 53), (82, .aload_n 0), (83, .getfield 57), (86, .ifCond .ne 26), (89, .aload_n 0), (90, .getfield 60), (93, .ifCond .eq 19), (96, .aload_n 0), (97, .aload_n 0), (98, .getfield 60), (101, .putfield 57), (104, .aload_n 0), (105, .aload_n 0), (106, .getfield 63), (109, .putfield 66), (112, .aload_n 0), (113, .getfield 57), (116, .ireturn)]
def jm_c18 : List (Nat × Instr) := [(0, .aload_n 0), (1, .getfield 25), (4, .iconst 0), (5, .putfield 69), (8, .aload_n 0), (9, .getfield 25), (12, .iconst 0), (13, .putfield 72), (16, .aload_n 0), (17, .iconst 0), (18, .putfield 75), (21, .aload_n 0), (22, .iconst 0), (23, .putfield 78), (26, .aload_n 0), (27, .iconst 0), (28, .putfield 81), (31, .aload_n 0), (32, .iconst 0), (33, .putfield 84), (36, .aload_n 0), (37, .iconst 0), (38, .putfield 57), (41, .aload_n 0), (42, .iconst (-1)), (43, .putfield 66), (46, .aload_n 0), (47, .iconst 0), (48, .putfield 60), (51, .aload_n 0), (52, .iconst (-1)), (53, .putfield 63), (56, .aload_n 0), (57, .invokevirtual 87), (60, .return_)]
def jm_c19 : List (Nat × Instr) := [(0, .aload_n 0), (1, .getfield 75), (4, .aload_n 0), (5, .getfield 12), (8, .getfield 90), (11, .if_icmp .ge 33), (14, .aload_n 0), (15, .getfield 12), (18, .aload_n 0), (19, .getfield 75), (22, .invokevirtual 91), (25, .invokestatic 95), (28, .ifCond .eq 16), (31, .aload_n 0), (32, .dup), (33, .getfield 75), (36, .iconst 1), (37, .iadd), (38, .putfield 75), (41, .goto (-41)), (44, .aload_n 0), (45, .aload_n 0), (46, .getfield 75), (49, .putfield 98), (52, .aload_n 0), (53, .getfield 12), (56, .aload_n 0), (57, .getfield 75), (60, .invokevirtual 91), (63, .istore_n 1), (64, .aload_n 0), (65, .getfield 75), (68, .aload_n 0), (69, .getfield 12), (72, .getfield 90), (75, .if_icmp .lt 11), (78, .aload_n 0), (79, .iconst 0), (80, .putfield 47), (83, .goto 61), (86, .iload_n 1), (87, .invokestatic 100), (90, .ifCond .eq 10), (93, .aload_n 0), (94, .invokevirtual 103), (97, .goto 47), (100, .iload_n 1), (101, .invokestatic 106), (104, .ifCond .eq 10), (107, .aload_n 0), (108, .invokevirtual 109), (111, .goto 33), (114, .iload_n 1), (115, .invokestatic 112), (118, .ifCond .eq 21), (121, .aload_n 0), (122, .iload_n 1), (123, .putfield 47), (126, .aload_n 0), (127, .dup), (128, .getfield 75), (131, .iconst 1), (132, .iadd), (133, .putfield 75), (136, .goto 8), (139, .aload_n 0), (140, .iconst 1), (141, .putfield 47), (144, .aload_n 0), (145, .dup), (146, .getfield 78), (149, .iconst 1), (150, .iadd), (151, .putfield 78), (154, .return_)]
def jm_c20 : List (Nat × Instr) := [(0, .iload_n 1), (1, .ifCond .lt 20), (4, .iload_n 1), (5, .aload_n 0), (6, .getfield 15), (9, .if_icmp .ge 12), (12, .iload_n 1), (13, .aload_n 0), (14, .getfield 9), (17, .arraylength), (18, .if_icmp .lt 7), (21, .iconst (-1)), (22, .goto 13), (25, .aload_n 0), (26, .getfield 9), (29, .iload_n 1), (30, .baload), (31, .sipush 255), (34, .iand), (35, .ireturn)]
def jm_c21 : List (Nat × Instr) := [(0, .iload_n 0), (1, .bipush 9), (3, .if_icmp .eq 21), (6, .iload_n 0), (7, .bipush 10), (9, .if_icmp .eq 15), (12, .iload_n 0), (13, .bipush 13), (15, .if_icmp .eq 9), (18, .iload_n 0), (19, .bipush 32), (21, .if_icmp .ne 7), (24, .iconst 1), (25, .goto 4), (28, .iconst 0), (29, .ireturn)]
def jm_c22 : List (Nat × Instr) := [(0, .iload_n 0), (1, .bipush 97), (3, .if_icmp .lt 13), (6, .iload_n 0), (7, .bipush 122), (9, .if_icmp .gt 7), (12, .iconst 1), (13, .goto 4), (16, .iconst 0), (17, .ireturn)]
def jm_c23 : List (Nat × Instr) := [(0, .aload_n 0), (1, .lconst 0), (2, .putfield 115), (5, .aload_n 0), (6, .getfield 75), (9, .aload_n 0), (10, .getfield 12), (13, .getfield 90), (16, .if_icmp .ge 64), (19, .aload_n 0), (20, .getfield 12), (23, .aload_n 0), (24, .getfield 75), (27, .invokevirtual 91), (30, .invokestatic 100), (33, .ifCond .eq 47), (36, .aload_n 0), (37, .aload_n 0), (38, .getfield 115), (41, .ldc2_w 119), (44, .lmul), (45, .aload_n 0), (46, .getfield 12), (49, .aload_n 0), (50, .getfield 75), (53, .invokevirtual 91), (56, .i2l), (57, .ladd), (58, .ldc2_w 121), (61, .lsub), (62, .lconst 1), (63, .ladd), (64, .putfield 115), (67, .aload_n 0), (68, .dup), (69, .getfield 75), (72, .iconst 1), (73, .iadd), (74, .putfield 75), (77, .goto (-72)), (80, .aload_n 0), (81, .aload_n 0), (82, .getfield 75), (85, .aload_n 0), (86, .getfield 98), (89, .isub), (90, .bipush 8), (92, .if_icmp .le 7), (95, .iconst 1), (96, .goto 10), (99, .aload_n 0), (100, .getfield 115), (103, .invokestatic 123), (106, .putfield 47), (109, .return_)]
def jm_c24 : List (Nat × Instr) := [(0, .lload_n 0), (1, .ldc2_w 131), (4, .lcmp), (5, .ifCond .ne 5), (8, .iconst 4), (9, .ireturn), (10, .lload_n 0), (11, .ldc2_w 133), (14, .lcmp), (15, .ifCond .ne 5), (18, .iconst 5), (19, .ireturn), (20, .lload_n 0), (21, .ldc2_w 135), (24, .lcmp), (25, .ifCond .ne 6), (28, .bipush 6), (30, .ireturn), (31, .lload_n 0), (32, .ldc2_w 137), (35, .lcmp), (36, .ifCond .ne 8), (39, .bipush 7), (41, .goto 4), (44, .iconst 2), (45, .ireturn)]
def jm_c25 : List (Nat × Instr) := [(0, .iload_n 0), (1, .bipush 48), (3, .if_icmp .lt 13), (6, .iload_n 0), (7, .bipush 57), (9, .if_icmp .gt 7), (12, .iconst 1), (13, .goto 4), (16, .iconst 0), (17, .ireturn)]
def jm_c26 : List (Nat × Instr) := [(0, .aload_n 0), (1, .lconst 0), (2, .putfield 115), (5, .aload_n 0), (6, .getfield 75), (9, .aload_n 0), (10, .getfield 12), (13, .getfield 90), (16, .if_icmp .ge 62), (19, .aload_n 0), (20, .getfield 12), (23, .aload_n 0), (24, .getfield 75), (27, .invokevirtual 91), (30, .invokestatic 106), (33, .ifCond .eq 45), (36, .aload_n 0), (37, .aload_n 0), (38, .getfield 115), (41, .ldc2_w 127), (44, .lmul), (45, .aload_n 0), (46, .getfield 12), (49, .aload_n 0), (50, .getfield 75), (53, .invokevirtual 91), (56, .i2l), (57, .ladd), (58, .ldc2_w 129), (61, .lsub), (62, .putfield 115), (65, .aload_n 0), (66, .dup), (67, .getfield 75), (70, .iconst 1), (71, .iadd), (72, .putfield 75), (75, .goto (-70)), (78, .aload_n 0), (79, .aload_n 0), (80, .getfield 75), (83, .aload_n 0), (84, .getfield 98), (87, .isub), (88, .iconst 4), (89, .if_icmp .le 7), (92, .iconst 1), (93, .goto 4), (96, .iconst 3), (97, .putfield 47), (100, .return_)]
def jm_c27 : List (Nat × Instr) := [(0, .iload_n 0), (1, .bipush 40), (3, .if_icmp .lt 9), (6, .iload_n 0), (7, .bipush 45), (9, .if_icmp .le 15), (12, .iload_n 0), (13, .bipush 47), (15, .if_icmp .eq 9), (18, .iload_n 0), (19, .bipush 59), (21, .if_icmp .ne 7), (24, .iconst 1), (25, .goto 4), (28, .iconst 0), (29, .ireturn)]
def jm_c28 : List (Nat × Instr) := [(0, .aload_n 0), (1, .getfield 57), (4, .ifCond .eq 5), (7, .iconst 0), (8, .ireturn), (9, .aload_n 0), (10, .getfield 47), (13, .iload_n 1), (14, .if_icmp .eq 10), (17, .aload_n 0), (18, .iconst 1), (19, .invokevirtual 53), (22, .iconst 0), (23, .ireturn), (24, .aload_n 0), (25, .dup), (26, .getfield 81), (29, .aload_n 0), (30, .getfield 47), (33, .iconst 5), (34, .if_icmp .ne 7), (37, .iconst 1), (38, .goto 4), (41, .iconst 0), (42, .iadd), (43, .putfield 81), (46, .aload_n 0), (47, .dup), (48, .getfield 84), (51, .aload_n 0), (52, .getfield 47), (55, .bipush 40), (57, .if_icmp .ne 7), (60, .iconst 1), (61, .goto 17), (64, .aload_n 0), (65, .getfield 47), (68, .bipush 41), (70, .if_icmp .ne 7), (73, .iconst (-1)), (74, .goto 4), (77, .iconst 0), (78, .iadd), (79, .putfield 84), (82, .aload_n 0), (83, .getfield 78), (86, .sipush 400), (89, .if_icmp .gt 21), (92, .aload_n 0), (93, .getfield 81), (96, .bipush 8), (98, .if_icmp .gt 12), (101, .aload_n 0), (102, .getfield 84), (105, .bipush 8), (107, .if_icmp .le 10), (110, .aload_n 0), (111, .iconst 2), (112, .invokevirtual 53), (115, .iconst 0), (116, .ireturn), (117, .aload_n 0), (118, .invokevirtual 87), (121, .iconst 1), (122, .ireturn)]
def jm_c29 : List (Nat × Instr) := [(0, .aload_n 0), (1, .getfield 57), (4, .ifCond .ne 16), (7, .aload_n 0), (8, .iload_n 1), (9, .putfield 57), (12, .aload_n 0), (13, .aload_n 0), (14, .getfield 98), (17, .putfield 66), (20, .aload_n 0), (21, .iconst 0), (22, .putfield 47), (25, .return_)]
def jm_c30 : List (Nat × Instr) := [(0, .aload_n 0), (1, .getfield 115), (4, .lstore_n 3), (5, .aload_n 0), (6, .getfield 98), (9, .istore 5), (11, .aload_n 0), (12, .iconst 3), (13, .invokevirtual 32), (16, .ifCond .ne 5), (19, .iload_n 1), (20, .ireturn), (21, .lload_n 3), (22, .iload_n 1), (23, .i2l), (24, .lcmp), (25, .ifCond .lt 10), (28, .lload_n 3), (29, .iload_n 2), (30, .i2l), (31, .lcmp), (32, .ifCond .le 12), (35, .aload_n 0), (36, .iconst 5), (37, .iload 5), (39, .invokevirtual 139), (42, .iload_n 1), (43, .ireturn), (44, .lload_n 3), (45, .l2i), (46, .ireturn)]
def jm_c31 : List (Nat × Instr) := [(0, .aload_n 0), (1, .getfield 60), (4, .ifCond .ne 13), (7, .aload_n 0), (8, .iload_n 1), (9, .putfield 60), (12, .aload_n 0), (13, .iload_n 2), (14, .putfield 63), (17, .return_)]
def jm_c32 : List (Nat × Instr) := [(0, .aload_n 0), (1, .iconst 5), (2, .invokevirtual 32), (5, .pop), (6, .aload_n 0), (7, .getfield 115), (10, .lstore_n 1), (11, .aload_n 0), (12, .getfield 98), (15, .istore_n 3), (16, .aload_n 0), (17, .iconst 2), (18, .invokevirtual 32), (21, .ifCond .ne 4), (24, .return_), (25, .aload_n 0), (26, .lload_n 1), (27, .invokevirtual 143), (30, .iconst (-1)), (31, .if_icmp .eq 9), (34, .aload_n 0), (35, .iconst 3), (36, .iload_n 3), (37, .invokevirtual 139), (40, .aload_n 0), (41, .iconst 0), (42, .invokevirtual 146), (45, .aload_n 0), (46, .bipush 59), (48, .invokevirtual 32), (51, .pop), (52, .aload_n 0), (53, .getfield 25), (56, .bipush 9), (58, .aload_n 0), (59, .getfield 25), (62, .getfield 72), (65, .invokevirtual 149), (68, .aload_n 0), (69, .getfield 25), (72, .getfield 72), (75, .aload_n 0), (76, .getfield 18), (79, .arraylength), (80, .if_icmp .ge 29), (83, .aload_n 0), (84, .getfield 18), (87, .aload_n 0), (88, .getfield 25), (91, .getfield 72), (94, .lload_n 1), (95, .lastore), (96, .aload_n 0), (97, .getfield 25), (100, .dup), (101, .getfield 72), (104, .iconst 1), (105, .iadd), (106, .putfield 72), (109, .return_)]
def jm_c33 : List (Nat × Instr) := [(0, .iconst 0), (1, .istore_n 3), (2, .iload_n 3), (3, .aload_n 0), (4, .getfield 25), (7, .getfield 72), (10, .if_icmp .ge 31), (13, .iload_n 3), (14, .aload_n 0), (15, .getfield 18), (18, .arraylength), (19, .if_icmp .ge 22), (22, .aload_n 0), (23, .getfield 18), (26, .iload_n 3), (27, .laload), (28, .lload_n 1), (29, .lcmp), (30, .ifCond .ne 5), (33, .iload_n 3), (34, .ireturn), (35, .iinc 3 1), (38, .goto (-36)), (41, .iconst (-1)), (42, .ireturn)]
def jm_c34 : List (Nat × Instr) := [(0, .iload_n 1), (1, .bipush 8), (3, .if_icmp .le 9), (6, .aload_n 0), (7, .iconst 2), (8, .invokevirtual 53), (11, .return_), (12, .aload_n 0), (13, .getfield 47), (16, .bipush 45), (18, .if_icmp .ne 7), (21, .iconst 1), (22, .goto 4), (25, .iconst 0), (26, .istore_n 2), (27, .iload_n 2), (28, .ifCond .eq 10), (31, .aload_n 0), (32, .bipush 45), (34, .invokevirtual 32), (37, .pop), (38, .aload_n 0), (39, .iload_n 1), (40, .invokevirtual 152), (43, .iload_n 2), (44, .ifCond .eq 13), (47, .aload_n 0), (48, .getfield 25), (51, .bipush 6), (53, .iconst 0), (54, .invokevirtual 149), (57, .iconst 0), (58, .istore_n 3), (59, .iload_n 3), (60, .sipush 400), (63, .if_icmp .gt 67), (66, .aload_n 0), (67, .getfield 47), (70, .bipush 43), (72, .if_icmp .eq 12), (75, .aload_n 0), (76, .getfield 47), (79, .bipush 45), (81, .if_icmp .ne 49), (84, .aload_n 0), (85, .getfield 47), (88, .bipush 43), (90, .if_icmp .ne 7), (93, .iconst 0), (94, .goto 4), (97, .iconst 1), (98, .istore 4), (100, .aload_n 0), (101, .aload_n 0), (102, .getfield 47), (105, .invokevirtual 32), (108, .pop), (109, .aload_n 0), (110, .iload_n 1), (111, .invokevirtual 152), (114, .aload_n 0), (115, .getfield 25), (118, .iload 4), (120, .iconst 0), (121, .invokevirtual 149), (124, .iinc 3 1), (127, .goto (-68)), (130, .return_)]
def jm_c35 : List (Nat × Instr) := [(0, .aload_n 0), (1, .iload_n 1), (2, .invokevirtual 155), (5, .iconst 0), (6, .istore_n 2), (7, .iload_n 2), (8, .sipush 400), (11, .if_icmp .gt 65), (14, .aload_n 0), (15, .getfield 47), (18, .bipush 42), (20, .if_icmp .eq 12), (23, .aload_n 0), (24, .getfield 47), (27, .bipush 47), (29, .if_icmp .ne 47), (32, .aload_n 0), (33, .getfield 47), (36, .bipush 42), (38, .if_icmp .ne 7), (41, .iconst 2), (42, .goto 4), (45, .iconst 3), (46, .istore_n 3), (47, .aload_n 0), (48, .aload_n 0), (49, .getfield 47), (52, .invokevirtual 32), (55, .pop), (56, .aload_n 0), (57, .iload_n 1), (58, .invokevirtual 155), (61, .aload_n 0), (62, .getfield 25), (65, .iload_n 3), (66, .iconst 0), (67, .invokevirtual 149), (70, .iinc 2 1), (73, .goto (-66)), (76, .return_)]
def jm_c36 : List (Nat × Instr) := [(0, .aload_n 0), (1, .getfield 47), (4, .lookupswitch 122 #[(2, 74), (3, 52), (6, 89), (7, 114), (40, 81)]), (56, .aload_n 0), (57, .getfield 25), (60, .iconst 4), (61, .aload_n 0), (62, .getfield 115), (65, .l2i), (66, .invokevirtual 149), (69, .aload_n 0), (70, .iconst 3), (71, .invokevirtual 32), (74, .pop), (75, .goto 56), (78, .aload_n 0), (79, .invokevirtual 158), (82, .goto 49), (85, .aload_n 0), (86, .iload_n 1), (87, .invokevirtual 161), (90, .goto 41), (93, .aload_n 0), (94, .bipush 6), (96, .invokevirtual 32), (99, .pop), (100, .aload_n 0), (101, .iload_n 1), (102, .invokevirtual 161), (105, .aload_n 0), (106, .getfield 25), (109, .bipush 7), (111, .iconst 0), (112, .invokevirtual 149), (115, .goto 16), (118, .aload_n 0), (119, .iload_n 1), (120, .invokevirtual 164), (123, .goto 8), (126, .aload_n 0), (127, .iconst 1), (128, .invokevirtual 53), (131, .return_)]
def jm_c37 : List (Nat × Instr) := [(0, .aload_n 0), (1, .getfield 18), (4, .aload_n 0), (5, .getfield 9), (8, .arraylength), (9, .if_icmp .ge 45), (12, .aload_n 0), (13, .getfield 18), (16, .aload_n 0), (17, .getfield 15), (20, .arraylength), (21, .if_icmp .ge 33), (24, .aload_n 0), (25, .getfield 9), (28, .aload_n 0), (29, .getfield 18), (32, .iload_n 1), (33, .iastore), (34, .aload_n 0), (35, .getfield 15), (38, .aload_n 0), (39, .getfield 18), (42, .iload_n 2), (43, .iastore), (44, .aload_n 0), (45, .dup), (46, .getfield 18), (49, .iconst 1), (50, .iadd), (51, .putfield 18), (54, .return_)]
def jm_c38 : List (Nat × Instr) := [(0, .aload_n 0), (1, .aload_n 0), (2, .getfield 115), (5, .invokevirtual 143), (8, .istore_n 1), (9, .iload_n 1), (10, .iconst (-1)), (11, .if_icmp .ne 12), (14, .aload_n 0), (15, .iconst 4), (16, .aload_n 0), (17, .getfield 98), (20, .invokevirtual 139), (23, .aload_n 0), (24, .getfield 25), (27, .iconst 5), (28, .iload_n 1), (29, .invokevirtual 149), (32, .aload_n 0), (33, .iconst 2), (34, .invokevirtual 32), (37, .pop), (38, .return_)]
def jm_c39 : List (Nat × Instr) := [(0, .aload_n 0), (1, .bipush 40), (3, .invokevirtual 32), (6, .ifCond .eq 17), (9, .aload_n 0), (10, .iload_n 1), (11, .iconst 1), (12, .iadd), (13, .invokevirtual 146), (16, .aload_n 0), (17, .bipush 41), (19, .invokevirtual 32), (22, .pop), (23, .return_)]
def jm_c40 : List (Nat × Instr) := [(0, .aload_n 0), (1, .bipush 7), (3, .invokevirtual 32), (6, .pop), (7, .aload_n 0), (8, .bipush 40), (10, .invokevirtual 32), (13, .ifCond .ne 4), (16, .return_), (17, .iconst 0), (18, .istore_n 2), (19, .iload_n 2), (20, .ifCond .le 10), (23, .aload_n 0), (24, .bipush 44), (26, .invokevirtual 32), (29, .pop), (30, .aload_n 0), (31, .iload_n 1), (32, .iconst 1), (33, .iadd), (34, .invokevirtual 146), (37, .aload_n 0), (38, .bipush 44), (40, .invokevirtual 32), (43, .pop), (44, .aload_n 0), (45, .iload_n 1), (46, .iconst 1), (47, .iadd), (48, .invokevirtual 146), (51, .iinc 2 1), (54, .iload_n 2), (55, .sipush 400), (58, .if_icmp .gt 12), (61, .aload_n 0), (62, .getfield 47), (65, .bipush 44), (67, .if_icmp .eq (-48)), (70, .aload_n 0), (71, .bipush 41), (73, .invokevirtual 32), (76, .pop), (77, .aload_n 0), (78, .getfield 25), (81, .bipush 8), (83, .iload_n 2), (84, .invokevirtual 149), (87, .return_)]
def jm_c41 : List (Nat × Instr) := [(0, .aload_n 0), (1, .getfield 87), (4, .astore_n 1), (5, .aload_n 0), (6, .aload_n 0), (7, .getfield 10), (10, .getfield 124), (13, .putfield 87), (16, .aload_n 0), (17, .getfield 10), (20, .aload_n 1), (21, .putfield 124), (24, .aload_n 0), (25, .getfield 53), (28, .aload_n 0), (29, .getfield 87), (32, .getfield 125), (35, .putfield 114), (38, .aload_n 0), (39, .getfield 53), (42, .aload_n 0), (43, .getfield 87), (46, .getfield 126), (49, .putfield 117), (52, .aload_n 0), (53, .getfield 53), (56, .getfield 127), (59, .invokevirtual 131), (62, .aload_n 0), (63, .iconst 0), (64, .putfield 136), (67, .iconst 0), (68, .istore_n 2), (69, .iload_n 2), (70, .aload_n 0), (71, .getfield 63), (74, .arraylength), (75, .if_icmp .ge 19), (78, .aload_n 0), (79, .getfield 63), (82, .iload_n 2), (83, .aaload), (84, .iconst 0), (85, .putfield 139), (88, .iinc 2 1), (91, .goto (-22)), (94, .return_)]
def jm_c42 : List (Nat × Instr) := [(0, .iconst 0), (1, .istore_n 1), (2, .iload_n 1), (3, .aload_n 0), (4, .getfield 9), (7, .arraylength), (8, .if_icmp .ge 16), (11, .aload_n 0), (12, .getfield 9), (15, .iload_n 1), (16, .lconst 0), (17, .lastore), (18, .iinc 1 1), (21, .goto (-19)), (24, .aload_n 0), (25, .iconst 0), (26, .putfield 13), (29, .aload_n 0), (30, .iconst 0), (31, .putfield 17), (34, .return_)]
def jm_c43 : List (Nat × Instr) := [(0, .aload_n 0), (1, .iconst 0), (2, .putfield 39), (5, .iconst 0), (6, .istore 5), (8, .iload 5), (10, .aload_n 1), (11, .getfield 43), (14, .if_icmp .ge 234), (17, .iload 5), (19, .aload_n 1), (20, .getfield 48), (23, .arraylength), (24, .if_icmp .ge 224), (27, .iload 5), (29, .aload_n 1), (30, .getfield 51), (33, .arraylength), (34, .if_icmp .ge 214), (37, .aload_n 1), (38, .getfield 51), (41, .iload 5), (43, .iaload), (44, .istore 6), (46, .aload_n 1), (47, .getfield 48), (50, .iload 5), (52, .iaload), (53, .tableswitch 157 4 9 #[39, 57, 86, 101, 121, 132]), (92, .aload_n 0), (93, .aload_n 0), (94, .getfield 12), (97, .iload_n 2), (98, .iload_n 3), (99, .iload 6), (101, .invokevirtual 54), (104, .invokevirtual 58), (107, .goto 135), (110, .aload_n 0), (111, .iload 6), (113, .ifCond .lt 19), (116, .iload 6), (118, .aload 4), (120, .arraylength), (121, .if_icmp .ge 11), (124, .aload 4), (126, .iload 6), (128, .iaload), (129, .goto 4), (132, .iconst 0), (133, .invokevirtual 58), (136, .goto 106), (139, .aload_n 0), (140, .iload_n 2), (141, .aload_n 0), (142, .invokevirtual 62), (145, .invokestatic 66), (148, .invokevirtual 58), (151, .goto 91), (154, .aload_n 0), (155, .aload_n 0), (156, .getfield 12), (159, .iload_n 2), (160, .iload_n 3), (161, .aload_n 0), (162, .invokevirtual 62), (165, .invokevirtual 72), (168, .invokevirtual 58), (171, .goto 71), (174, .aload_n 0), (175, .iload_n 2), (176, .iload_n 3), (177, .iload 6), (179, .invokevirtual 75), (182, .goto 60), (185, .iload 6), (187, .ifCond .lt 55), (190, .iload 6), (192, .aload 4), (194, .arraylength), (195, .if_icmp .ge 47), (198, .aload 4), (200, .iload 6), (202, .aload_n 0), (203, .invokevirtual 62), (206, .iastore), (207, .goto 35), (210, .aload_n 0), (211, .invokevirtual 62), (214, .istore 7), (216, .aload_n 0), (217, .aload_n 0), (218, .getfield 12), (221, .iload_n 2), (222, .iload_n 3), (223, .aload_n 0), (224, .invokevirtual 62), (227, .iload 7), (229, .aload_n 1), (230, .getfield 48), (233, .iload 5), (235, .iaload), (236, .invokevirtual 79), (239, .invokevirtual 58), (242, .iinc 5 1), (245, .goto (-237)), (248, .return_)]
def jm_c44 : List (Nat × Instr) := [(0, .aload_n 0), (1, .getfield 21), (4, .iload_n 3), (5, .invokevirtual 48), (8, .aload_n 0), (9, .iload_n 1), (10, .iload_n 2), (11, .aload_n 0), (12, .getfield 21), (15, .invokevirtual 41), (18, .ireturn)]
def jm_c45 : List (Nat × Instr) := [(0, .aload_n 0), (1, .iload_n 1), (2, .invokestatic 37), (5, .iload_n 1), (6, .i2l), (7, .invokestatic 43), (10, .iconst 0), (11, .invokevirtual 18), (14, .return_)]
def jm_c46 : List (Nat × Instr) := [(0, .iload_n 0), (1, .bipush 31), (3, .ishr), (4, .iload_n 0), (5, .ineg), (6, .bipush 31), (8, .iushr), (9, .ior), (10, .ireturn)]
def jm_c47 : List (Nat × Instr) := [(0, .lload_n 0), (1, .lconst 0), (2, .lcmp), (3, .ifCond .ge 8), (6, .lload_n 0), (7, .lneg), (8, .goto 4), (11, .lload_n 0), (12, .lreturn)]
def jm_c48 : List (Nat × Instr) := [(0, .aload_n 0), (1, .iconst 0), (2, .putfield 22), (5, .aload_n 0), (6, .lload_n 2), (7, .lconst 0), (8, .lcmp), (9, .ifCond .ne 7), (12, .iconst 0), (13, .goto 4), (16, .iload_n 1), (17, .putfield 26), (20, .aload_n 0), (21, .lload_n 2), (22, .putfield 30), (25, .aload_n 0), (26, .iload 4), (28, .putfield 34), (31, .return_)]
def jm_c49 : List (Nat × Instr) := [(0, .aload_n 3), (1, .getfield 59), (4, .ifCond .eq 14), (7, .aload_n 0), (8, .bipush (-2)), (10, .putfield 95), (13, .iload_n 1), (14, .invokestatic 98), (17, .ireturn), (18, .aload_n 3), (19, .getfield 31), (22, .ifCond .ne 10), (25, .aload_n 0), (26, .iconst 0), (27, .putfield 95), (30, .iconst 0), (31, .ireturn), (32, .aload_n 0), (33, .getfield 21), (36, .aload_n 3), (37, .invokevirtual 55), (40, .aload_n 0), (41, .getfield 21), (44, .invokevirtual 103), (47, .aload_n 0), (48, .iload_n 1), (49, .iload_n 2), (50, .invokevirtual 106), (53, .istore 4), (55, .aload_n 3), (56, .getfield 31), (59, .ifCond .le 6), (62, .iload 4), (64, .ireturn), (65, .aload_n 0), (66, .aload_n 0), (67, .getfield 95), (70, .ineg), (71, .putfield 95), (74, .iload_n 1), (75, .iload 4), (77, .invokestatic 110), (80, .ireturn)]
def jm_c50 : List (Nat × Instr) := [(0, .iconst 1), (1, .iload_n 0), (2, .iconst 1), (3, .isub), (4, .ishl), (5, .ireturn)]
def jm_c51 : List (Nat × Instr) := [(0, .aload_n 0), (1, .aload_n 1), (2, .getfield 26), (5, .aload_n 1), (6, .getfield 30), (9, .aload_n 1), (10, .getfield 34), (13, .invokevirtual 18), (16, .aload_n 0), (17, .aload_n 1), (18, .getfield 22), (21, .putfield 22), (24, .return_)]
def jm_c52 : List (Nat × Instr) := [(0, .aload_n 0), (1, .getfield 30), (4, .invokestatic 88), (7, .bipush 45), (9, .isub), (10, .istore_n 1), (11, .iload_n 1), (12, .ifCond .le 26), (15, .aload_n 0), (16, .aload_n 0), (17, .getfield 30), (20, .iload_n 1), (21, .ineg), (22, .invokestatic 91), (25, .putfield 30), (28, .aload_n 0), (29, .dup), (30, .getfield 34), (33, .iload_n 1), (34, .iadd), (35, .putfield 34), (38, .return_)]
def jm_c53 : List (Nat × Instr) := [(0, .bipush 64), (2, .lload_n 0), (3, .invokestatic 82), (6, .isub), (7, .ireturn)]
def jm_c54 : List (Nat × Instr) := [(0, .lload_n 0), (1, .bipush 32), (3, .lushr), (4, .l2i), (5, .istore_n 2), (6, .iload_n 2), (7, .ifCond .ne 14), (10, .bipush 32), (12, .lload_n 0), (13, .l2i), (14, .invokestatic 308), (17, .iadd), (18, .goto 7), (21, .iload_n 2), (22, .invokestatic 308), (25, .ireturn)]
def jm_c55 : List (Nat × Instr) := [(0, .iload_n 0), (1, .ifCond .gt 14), (4, .iload_n 0), (5, .ifCond .ne 8), (8, .bipush 32), (10, .goto 4), (13, .iconst 0), (14, .ireturn), (15, .bipush 31), (17, .istore_n 1), (18, .iload_n 0), (19, .ldc_w 264), (22, .if_icmp .lt 11), (25, .iinc 1 (-16)), (28, .iload_n 0), (29, .bipush 16), (31, .iushr), (32, .istore_n 0), (33, .iload_n 0), (34, .sipush 256), (37, .if_icmp .lt 11), (40, .iinc 1 (-8)), (43, .iload_n 0), (44, .bipush 8), (46, .iushr), (47, .istore_n 0), (48, .iload_n 0), (49, .bipush 16), (51, .if_icmp .lt 10), (54, .iinc 1 (-4)), (57, .iload_n 0), (58, .iconst 4), (59, .iushr), (60, .istore_n 0), (61, .iload_n 0), (62, .iconst 4), (63, .if_icmp .lt 10), (66, .iinc 1 (-2)), (69, .iload_n 0), (70, .iconst 2), (71, .iushr), (72, .istore_n 0), (73, .iload_n 1), (74, .iload_n 0), (75, .iconst 1), (76, .iushr), (77, .isub), (78, .ireturn)]
def jm_c56 : List (Nat × Instr) := [(0, .iload_n 2), (1, .ifCond .lt 12), (4, .lload_n 0), (5, .iload_n 2), (6, .bipush 62), (8, .invokestatic 85), (11, .lshl), (12, .lreturn), (13, .iload_n 2), (14, .bipush (-62)), (16, .if_icmp .ge 15), (19, .lload_n 0), (20, .lconst 0), (21, .lcmp), (22, .ifCond .ne 7), (25, .lconst 0), (26, .goto 4), (29, .lconst 1), (30, .lreturn), (31, .lload_n 0), (32, .lconst 1), (33, .iload_n 2), (34, .ineg), (35, .lshl), (36, .lconst 1), (37, .lsub), (38, .land), (39, .lstore_n 3), (40, .lload_n 0), (41, .iload_n 2), (42, .ineg), (43, .lshr), (44, .lload_n 3), (45, .lconst 0), (46, .lcmp), (47, .ifCond .ne 7), (50, .iconst 0), (51, .goto 4), (54, .iconst 1), (55, .i2l), (56, .lor), (57, .lreturn)]
def jm_c57 : List (Nat × Instr) := [(0, .iload_n 0), (1, .iload_n 1), (2, .if_icmp .gt 7), (5, .iload_n 0), (6, .goto 4), (9, .iload_n 1), (10, .ireturn)]
def jm_c58 : List (Nat × Instr) := [(0, .iload_n 1), (1, .iconst 2), (2, .isub), (3, .iload_n 2), (4, .ishl), (5, .istore_n 3), (6, .aload_n 0), (7, .getfield 21), (10, .invokevirtual 66), (13, .istore 4), (15, .iload 4), (17, .iload_n 3), (18, .if_icmp .le 13), (21, .aload_n 0), (22, .iconst (-1)), (23, .putfield 95), (26, .iload_n 1), (27, .invokestatic 113), (30, .ireturn), (31, .iload 4), (33, .iload_n 3), (34, .ineg), (35, .if_icmp .ge 10), (38, .aload_n 0), (39, .iconst 1), (40, .putfield 95), (43, .iconst 1), (44, .ireturn), (45, .aload_n 0), (46, .getfield 21), (49, .getfield 70), (52, .invokestatic 74), (55, .iconst 1), (56, .isub), (57, .istore 5), (59, .iload 4), (61, .iload_n 2), (62, .invokestatic 116), (65, .iload 5), (67, .lshl), (68, .aload_n 0), (69, .getfield 21), (72, .getfield 70), (75, .lconst 1), (76, .iload 5), (78, .lshl), (79, .lconst 1), (80, .lsub), (81, .land), (82, .lor), (83, .lstore 6), (85, .aload_n 0), (86, .lload 6), (88, .iload 4), (90, .iload_n 2), (91, .invokestatic 120), (94, .iload 5), (96, .iadd), (97, .iload_n 1), (98, .iconst 1), (99, .isub), (100, .isub), (101, .invokevirtual 123), (104, .ireturn)]
def jm_c59 : List (Nat × Instr) := [(0, .aload_n 0), (1, .getfield 34), (4, .bipush 63), (6, .iadd), (7, .aload_n 0), (8, .getfield 30), (11, .invokestatic 82), (14, .isub), (15, .ireturn)]
def jm_c60 : List (Nat × Instr) := [(0, .iload_n 0), (1, .invokestatic 17), (4, .iconst 1), (5, .isub), (6, .ireturn)]
def jm_c61 : List (Nat × Instr) := [(0, .iload_n 0), (1, .iload_n 1), (2, .ishr), (3, .istore_n 2), (4, .iload_n 2), (5, .ifCond .lt 15), (8, .lconst 1), (9, .iload_n 2), (10, .iconst 2), (11, .iadd), (12, .lshl), (13, .ldc2_w 127), (16, .lsub), (17, .goto 4), (20, .lconst 1), (21, .lstore_n 3), (22, .lload_n 3), (23, .iload_n 1), (24, .lshl), (25, .iload_n 0), (26, .iconst 1), (27, .iload_n 1), (28, .ishl), (29, .iconst 1), (30, .isub), (31, .iand), (32, .i2l), (33, .lor), (34, .lreturn)]
def jm_c62 : List (Nat × Instr) := [(0, .iload_n 0), (1, .iload_n 1), (2, .ishr), (3, .istore_n 2), (4, .iload_n 2), (5, .ifCond .lt 9), (8, .iload_n 2), (9, .iconst 2), (10, .iadd), (11, .goto 6), (14, .iconst 1), (15, .iload_n 2), (16, .isub), (17, .iload_n 1), (18, .iadd), (19, .ireturn)]
def jm_c63 : List (Nat × Instr) := [(0, .aload_n 0), (1, .iconst 0), (2, .putfield 95), (5, .iload_n 3), (6, .ifCond .gt 9), (9, .lload_n 1), (10, .iload_n 3), (11, .ineg), (12, .lshl), (13, .l2i), (14, .ireturn), (15, .lload_n 1), (16, .iload_n 3), (17, .lshr), (18, .lstore 4), (20, .lload_n 1), (21, .lconst 1), (22, .iload_n 3), (23, .lshl), (24, .lconst 1), (25, .lsub), (26, .land), (27, .lstore 6), (29, .lconst 1), (30, .iload_n 3), (31, .iconst 1), (32, .isub), (33, .lshl), (34, .lstore 8), (36, .lload 6), (38, .lload 8), (40, .lcmp), (41, .ifCond .gt 20), (44, .lload 6), (46, .lload 8), (48, .lcmp), (49, .ifCond .ne 16), (52, .lload 4), (54, .lconst 1), (55, .land), (56, .lconst 1), (57, .lcmp), (58, .ifCond .ne 7), (61, .iconst 1), (62, .goto 4), (65, .iconst 0), (66, .istore 10), (68, .lload 6), (70, .lconst 0), (71, .lcmp), (72, .ifCond .eq 17), (75, .aload_n 0), (76, .iload 10), (78, .ifCond .eq 7), (81, .iconst 1), (82, .goto 4), (85, .iconst (-1)), (86, .putfield 95), (89, .iload 10), (91, .ifCond .eq 10), (94, .lload 4), (96, .lconst 1), (97, .ladd), (98, .goto 5), (101, .lload 4), (103, .l2i), (104, .ireturn)]
def jm_c64 : List (Nat × Instr) := [(0, .iload_n 1), (1, .ineg), (2, .iconst 1), (3, .iload_n 0), (4, .ishl), (5, .iconst 1), (6, .isub), (7, .iand), (8, .ireturn)]
def jm_c65 : List (Nat × Instr) := [(0, .aload_n 0), (1, .getfield 39), (4, .ifCond .lt 35), (7, .aload_n 0), (8, .getfield 39), (11, .aload_n 0), (12, .getfield 35), (15, .arraylength), (16, .if_icmp .ge 23), (19, .aload_n 0), (20, .getfield 35), (23, .aload_n 0), (24, .getfield 39), (27, .iload_n 1), (28, .iastore), (29, .aload_n 0), (30, .dup), (31, .getfield 39), (34, .iconst 1), (35, .iadd), (36, .putfield 39), (39, .return_)]
def jm_c66 : List (Nat × Instr) := [(0, .aload_n 0), (1, .getfield 39), (4, .ifCond .le 15), (7, .aload_n 0), (8, .getfield 39), (11, .aload_n 0), (12, .getfield 35), (15, .arraylength), (16, .if_icmp .le 5), (19, .iconst 0), (20, .ireturn), (21, .aload_n 0), (22, .dup), (23, .getfield 39), (26, .iconst 1), (27, .isub), (28, .putfield 39), (31, .aload_n 0), (32, .getfield 35), (35, .aload_n 0), (36, .getfield 39), (39, .iaload), (40, .ireturn)]
def jm_c67 : List (Nat × Instr) := [(0, .aload_n 0), (1, .getfield 12), (4, .iload_n 1), (5, .iload_n 2), (6, .iload_n 3), (7, .invokevirtual 24), (10, .aload_n 0), (11, .invokevirtual 45), (14, .aload_n 0), (15, .iload_n 1), (16, .iload_n 2), (17, .aload_n 0), (18, .getfield 21), (21, .invokevirtual 41), (24, .ireturn)]
def jm_c68 : List (Nat × Instr) := [(0, .iload_n 3), (1, .ifCond .ne 11), (4, .aload_n 0), (5, .iconst 0), (6, .lconst 0), (7, .iconst 0), (8, .invokevirtual 18), (11, .return_), (12, .iload_n 1), (13, .iload_n 3), (14, .invokestatic 49), (17, .ifCond .eq 8), (20, .aload_n 0), (21, .invokevirtual 53), (24, .return_), (25, .iload_n 1), (26, .iload_n 3), (27, .invokestatic 56), (30, .istore 4), (32, .aload_n 0), (33, .getfield 12), (36, .iload_n 1), (37, .iload_n 2), (38, .iload 4), (40, .invokevirtual 60), (43, .aload_n 0), (44, .getfield 12), (47, .getfield 64), (50, .iload_n 2), (51, .ishl), (52, .aload_n 0), (53, .getfield 12), (56, .getfield 67), (59, .iadd), (60, .istore 5), (62, .lconst 1), (63, .aload_n 0), (64, .getfield 12), (67, .getfield 70), (70, .lshl), (71, .aload_n 0), (72, .getfield 12), (75, .getfield 73), (78, .i2l), (79, .ladd), (80, .lstore 6), (82, .lload 6), (84, .invokestatic 76), (87, .istore 8), (89, .aload_n 0), (90, .iload 4), (92, .iload_n 3), (93, .if_icmp .ne 7), (96, .iconst 1), (97, .goto 4), (100, .iconst (-1)), (101, .lload 6), (103, .iload 8), (105, .lshr), (106, .iload 5), (108, .aload_n 0), (109, .getfield 12), (112, .getfield 70), (115, .isub), (116, .iload 8), (118, .iadd), (119, .invokevirtual 18), (122, .return_)]
def jm_c69 : List (Nat × Instr) := [(0, .iload_n 1), (1, .iload_n 0), (2, .invokestatic 17), (5, .if_icmp .ne 7), (8, .iconst 1), (9, .goto 4), (12, .iconst 0), (13, .ireturn)]
def jm_c70 : List (Nat × Instr) := [(0, .aload_n 0), (1, .iconst 0), (2, .lconst 0), (3, .iconst 0), (4, .invokevirtual 18), (7, .aload_n 0), (8, .iconst 1), (9, .putfield 22), (12, .return_)]
def jm_c71 : List (Nat × Instr) := [(0, .iload_n 1), (1, .iload_n 0), (2, .invokestatic 17), (5, .if_icmp .le 11), (8, .iload_n 0), (9, .iload_n 1), (10, .invokestatic 21), (13, .goto 4), (16, .iload_n 1), (17, .ireturn)]
def jm_c72 : List (Nat × Instr) := [(0, .iload_n 3), (1, .iload_n 1), (2, .iconst 2), (3, .isub), (4, .ishr), (5, .iconst 1), (6, .iand), (7, .iconst 1), (8, .if_icmp .ne 7), (11, .iconst 1), (12, .goto 4), (15, .iconst 0), (16, .istore 4), (18, .aload_n 0), (19, .iload_n 1), (20, .iload_n 3), (21, .invokestatic 25), (24, .putfield 28), (27, .aload_n 0), (28, .iload 4), (30, .ifCond .eq 12), (33, .aload_n 0), (34, .getfield 28), (37, .iconst 1), (38, .isub), (39, .goto 8), (42, .aload_n 0), (43, .getfield 28), (46, .ineg), (47, .putfield 32), (50, .iconst 0), (51, .iload_n 1), (52, .iconst 2), (53, .isub), (54, .aload_n 0), (55, .getfield 28), (58, .isub), (59, .invokestatic 35), (62, .istore 5), (64, .iload_n 3), (65, .iconst 1), (66, .iload 5), (68, .ishl), (69, .iconst 1), (70, .isub), (71, .iand), (72, .istore 6), (74, .aload_n 0), (75, .iload 5), (77, .iload_n 2), (78, .if_icmp .lt 13), (81, .iload 6), (83, .iload 5), (85, .iload_n 2), (86, .isub), (87, .ishr), (88, .goto 10), (91, .iload 6), (93, .iload_n 2), (94, .iload 5), (96, .isub), (97, .ishl), (98, .putfield 40), (101, .aload_n 0), (102, .iconst 0), (103, .iload 5), (105, .iload_n 2), (106, .isub), (107, .invokestatic 35), (110, .putfield 43), (113, .aload_n 0), (114, .iload_n 3), (115, .iconst 1), (116, .aload_n 0), (117, .getfield 43), (120, .ishl), (121, .iconst 1), (122, .isub), (123, .iand), (124, .putfield 46), (127, .return_)]
def jm_c73 : List (Nat × Instr) := [(0, .iconst 0), (1, .istore_n 2), (2, .iload_n 1), (3, .iload_n 0), (4, .iconst 2), (5, .isub), (6, .ishr), (7, .iconst 1), (8, .iand), (9, .istore_n 3), (10, .iload_n 0), (11, .iconst 2), (12, .isub), (13, .istore 4), (15, .iload 4), (17, .ifCond .lt 22), (20, .iload_n 1), (21, .iload 4), (23, .ishr), (24, .iconst 1), (25, .iand), (26, .iload_n 3), (27, .if_icmp .ne 12), (30, .iinc 2 1), (33, .iinc 4 (-1)), (36, .goto (-21)), (39, .iload_n 2), (40, .ireturn)]
def jm_c74 : List (Nat × Instr) := [(0, .iload_n 0), (1, .iload_n 1), (2, .if_icmp .lt 7), (5, .iload_n 0), (6, .goto 4), (9, .iload_n 1), (10, .ireturn)]
def jm_c75 : List (Nat × Instr) := [(0, .lload_n 0), (1, .l2i), (2, .istore_n 2), (3, .iload_n 2), (4, .ifCond .ne 17), (7, .bipush 32), (9, .lload_n 0), (10, .bipush 32), (12, .lushr), (13, .l2i), (14, .invokestatic 311), (17, .iadd), (18, .goto 7), (21, .iload_n 2), (22, .invokestatic 311), (25, .ireturn)]
def jm_c76 : List (Nat × Instr) := [(0, .iload_n 0), (1, .iconst (-1)), (2, .ixor), (3, .iload_n 0), (4, .iconst 1), (5, .isub), (6, .iand), (7, .istore_n 0), (8, .iload_n 0), (9, .ifCond .gt 8), (12, .iload_n 0), (13, .bipush 32), (15, .iand), (16, .ireturn), (17, .iconst 1), (18, .istore_n 1), (19, .iload_n 0), (20, .ldc_w 264), (23, .if_icmp .le 11), (26, .iinc 1 16), (29, .iload_n 0), (30, .bipush 16), (32, .iushr), (33, .istore_n 0), (34, .iload_n 0), (35, .sipush 256), (38, .if_icmp .le 11), (41, .iinc 1 8), (44, .iload_n 0), (45, .bipush 8), (47, .iushr), (48, .istore_n 0), (49, .iload_n 0), (50, .bipush 16), (52, .if_icmp .le 10), (55, .iinc 1 4), (58, .iload_n 0), (59, .iconst 4), (60, .iushr), (61, .istore_n 0), (62, .iload_n 0), (63, .iconst 4), (64, .if_icmp .le 10), (67, .iinc 1 2), (70, .iload_n 0), (71, .iconst 2), (72, .iushr), (73, .istore_n 0), (74, .iload_n 1), (75, .iload_n 0), (76, .iconst 1), (77, .iushr), (78, .iadd), (79, .ireturn)]
def jm_c77 : List (Nat × Instr) := [(0, .aload_n 0), (1, .getfield 12), (4, .getfield 59), (7, .ifCond .ne 13), (10, .aload_n 0), (11, .getfield 12), (14, .getfield 31), (17, .ifCond .ge 11), (20, .aload_n 0), (21, .getfield 21), (24, .invokevirtual 63), (27, .return_), (28, .bipush 40), (30, .aload_n 0), (31, .getfield 12), (34, .getfield 52), (37, .iconst 1), (38, .iand), (39, .iadd), (40, .istore_n 1), (41, .aload_n 0), (42, .getfield 12), (45, .getfield 70), (48, .iload_n 1), (49, .lshl), (50, .lstore_n 2), (51, .lload_n 2), (52, .invokestatic 92), (55, .lstore 4), (57, .lload 4), (59, .lload 4), (61, .lmul), (62, .lload_n 2), (63, .lcmp), (64, .ifCond .ne 7), (67, .lconst 0), (68, .goto 4), (71, .lconst 1), (72, .lstore 6), (74, .aload_n 0), (75, .getfield 21), (78, .aload_n 0), (79, .getfield 12), (82, .getfield 31), (85, .lload 4), (87, .lload 6), (89, .lor), (90, .aload_n 0), (91, .getfield 12), (94, .getfield 52), (97, .iload_n 1), (98, .isub), (99, .iconst 1), (100, .ishr), (101, .invokevirtual 88), (104, .return_)]
def jm_c78 : List (Nat × Instr) := [(0, .lconst 0), (1, .lstore_n 2), (2, .bipush 30), (4, .istore 4), (6, .iload 4), (8, .ifCond .lt 30), (11, .lload_n 2), (12, .lconst 1), (13, .iload 4), (15, .lshl), (16, .lor), (17, .lstore 5), (19, .lload 5), (21, .lload 5), (23, .lmul), (24, .lload_n 0), (25, .lcmp), (26, .ifCond .gt 6), (29, .lload 5), (31, .lstore_n 2), (32, .iinc 4 (-1)), (35, .goto (-29)), (38, .lload_n 2), (39, .lreturn)]
def jm_c79 : List (Nat × Instr) := [(0, .aload_n 0), (1, .getfield 21), (4, .invokevirtual 83), (7, .iconst 0), (8, .istore 4), (10, .iload 4), (12, .iload_n 3), (13, .if_icmp .ge 51), (16, .aload_n 0), (17, .getfield 28), (20, .iload_n 1), (21, .iload_n 2), (22, .aload_n 0), (23, .invokevirtual 62), (26, .invokevirtual 86), (29, .aload_n 0), (30, .getfield 32), (33, .iload_n 1), (34, .iload_n 2), (35, .aload_n 0), (36, .invokevirtual 62), (39, .invokevirtual 86), (42, .aload_n 0), (43, .getfield 21), (46, .aload_n 0), (47, .getfield 28), (50, .aload_n 0), (51, .getfield 32), (54, .iconst 0), (55, .invokevirtual 89), (58, .iinc 4 1), (61, .goto (-51)), (64, .aload_n 0), (65, .getfield 21), (68, .aload_n 0), (69, .getfield 28), (72, .invokevirtual 93), (75, .aload_n 0), (76, .aload_n 0), (77, .getfield 12), (80, .iload_n 1), (81, .iload_n 2), (82, .aload_n 0), (83, .getfield 28), (86, .invokevirtual 97), (89, .invokevirtual 58), (92, .return_)]
def jm_c80 : List (Nat × Instr) := [(0, .aload_n 0), (1, .aload_n 0), (2, .getfield 17), (5, .ifCond .ne 17), (8, .aload_n 1), (9, .getfield 24), (12, .ifCond .ne 10), (15, .aload_n 2), (16, .getfield 24), (19, .ifCond .eq 7), (22, .iconst 1), (23, .goto 4), (26, .iconst 0), (27, .putfield 17), (30, .aload_n 0), (31, .getfield 17), (34, .ifCond .ne 17), (37, .aload_n 1), (38, .getfield 27), (41, .ifCond .eq 10), (44, .aload_n 2), (45, .getfield 27), (48, .ifCond .ne 4), (51, .return_), (52, .aload_n 1), (53, .getfield 27), (56, .aload_n 2), (57, .getfield 27), (60, .if_icmp .eq 7), (63, .iconst 1), (64, .goto 4), (67, .iconst 0), (68, .istore 4), (70, .iload 4), (72, .iload_n 3), (73, .if_icmp .eq 7), (76, .iconst 1), (77, .goto 4), (80, .iconst 0), (81, .istore 5), (83, .aload_n 0), (84, .aload_n 1), (85, .getfield 31), (88, .aload_n 2), (89, .getfield 31), (92, .lmul), (93, .aload_n 1), (94, .getfield 35), (97, .aload_n 2), (98, .getfield 35), (101, .iadd), (102, .bipush (-96)), (104, .isub), (105, .iload 5), (107, .aload_n 0), (108, .getfield 13), (111, .if_icmp .ne 7), (114, .iconst 1), (115, .goto 4), (118, .iconst 0), (119, .invokevirtual 38), (122, .aload_n 0), (123, .getfield 9), (126, .bipush 6), (128, .laload), (129, .bipush 31), (131, .lshr), (132, .lconst 0), (133, .lcmp), (134, .ifCond .eq 23), (137, .aload_n 0), (138, .invokevirtual 42), (141, .aload_n 0), (142, .aload_n 0), (143, .getfield 13), (146, .ifCond .ne 7), (149, .iconst 1), (150, .goto 4), (153, .iconst 0), (154, .putfield 13), (157, .return_)]
def jm_c81 : List (Nat × Instr) := [(0, .iload_n 3), (1, .iconst 5), (2, .ishr), (3, .istore 5), (5, .lload_n 1), (6, .iload_n 3), (7, .bipush 31), (9, .iand), (10, .lshl), (11, .lstore 6), (13, .lload 6), (15, .ldc2_w 45), (18, .land), (19, .lstore 8), (21, .lload 6), (23, .bipush 32), (25, .lshr), (26, .lstore 10), (28, .iload 4), (30, .ifCond .eq 8), (33, .lload 8), (35, .goto 6), (38, .lload 8), (40, .lneg), (41, .lstore 12), (43, .iload 4), (45, .ifCond .eq 8), (48, .lload 10), (50, .goto 6), (53, .lload 10), (55, .lneg), (56, .lstore 14), (58, .iconst 0), (59, .iload 5), (61, .invokestatic 47), (64, .istore 16), (66, .iload 16), (68, .aload_n 0), (69, .getfield 9), (72, .arraylength), (73, .if_icmp .ge 47), (76, .aload_n 0), (77, .getfield 9), (80, .iload 16), (82, .laload), (83, .lload 12), (85, .ladd), (86, .lstore 17), (88, .aload_n 0), (89, .getfield 9), (92, .iload 16), (94, .lload 17), (96, .ldc2_w 45), (99, .land), (100, .lastore), (101, .lload 17), (103, .bipush 32), (105, .lshr), (106, .lload 14), (108, .ladd), (109, .lstore 12), (111, .lconst 0), (112, .lstore 14), (114, .iinc 16 1), (117, .goto (-51)), (120, .return_)]
def jm_c82 : List (Nat × Instr) := [(0, .lconst 1), (1, .lstore_n 1), (2, .iconst 0), (3, .istore_n 3), (4, .iload_n 3), (5, .aload_n 0), (6, .getfield 9), (9, .arraylength), (10, .if_icmp .ge 45), (13, .aload_n 0), (14, .getfield 9), (17, .iload_n 3), (18, .laload), (19, .ldc2_w 53), (22, .lxor), (23, .ldc2_w 45), (26, .land), (27, .lload_n 1), (28, .ladd), (29, .lstore 4), (31, .aload_n 0), (32, .getfield 9), (35, .iload_n 3), (36, .lload 4), (38, .ldc2_w 45), (41, .land), (42, .lastore), (43, .lload 4), (45, .bipush 32), (47, .lshr), (48, .lstore_n 1), (49, .iinc 3 1), (52, .goto (-48)), (55, .return_)]
def jm_c83 : List (Nat × Instr) := [(0, .aload_n 0), (1, .getfield 17), (4, .ifCond .eq 8), (7, .aload_n 1), (8, .invokevirtual 63), (11, .return_), (12, .aload_n 0), (13, .invokevirtual 20), (16, .istore_n 2), (17, .iconst 0), (18, .iload_n 2), (19, .bipush 45), (21, .isub), (22, .iconst 1), (23, .iadd), (24, .invokestatic 47), (27, .istore_n 3), (28, .lconst 0), (29, .lstore 4), (31, .iload_n 2), (32, .istore 6), (34, .iload 6), (36, .iload_n 3), (37, .if_icmp .lt 23), (40, .lload 4), (42, .iconst 1), (43, .lshl), (44, .aload_n 0), (45, .iload 6), (47, .invokevirtual 59), (50, .i2l), (51, .lor), (52, .lstore 4), (54, .iinc 6 (-1)), (57, .goto (-23)), (60, .aload_n 1), (61, .aload_n 0), (62, .getfield 13), (65, .ifCond .eq 7), (68, .iconst (-1)), (69, .goto 4), (72, .iconst 1), (73, .lload 4), (75, .aload_n 0), (76, .iload_n 3), (77, .invokevirtual 66), (80, .ifCond .eq 7), (83, .iconst 1), (84, .goto 4), (87, .iconst 0), (88, .i2l), (89, .lor), (90, .iload_n 3), (91, .bipush (-96)), (93, .iadd), (94, .invokevirtual 70), (97, .return_)]
def jm_c84 : List (Nat × Instr) := [(0, .aload_n 0), (1, .getfield 9), (4, .arraylength), (5, .iconst 1), (6, .isub), (7, .istore_n 1), (8, .iload_n 1), (9, .ifCond .lt 37), (12, .aload_n 0), (13, .getfield 9), (16, .iload_n 1), (17, .laload), (18, .lconst 0), (19, .lcmp), (20, .ifCond .eq 20), (23, .iload_n 1), (24, .bipush 32), (26, .imul), (27, .aload_n 0), (28, .getfield 9), (31, .iload_n 1), (32, .laload), (33, .invokestatic 55), (36, .iadd), (37, .iconst 1), (38, .isub), (39, .ireturn), (40, .iinc 1 (-1)), (43, .goto (-35)), (46, .iconst (-1)), (47, .ireturn)]
def jm_c85 : List (Nat × Instr) := [(0, .iload_n 1), (1, .ifCond .lt 15), (4, .iload_n 1), (5, .aload_n 0), (6, .getfield 9), (9, .arraylength), (10, .bipush 32), (12, .imul), (13, .if_icmp .lt 5), (16, .iconst 0), (17, .ireturn), (18, .aload_n 0), (19, .getfield 9), (22, .iload_n 1), (23, .iconst 5), (24, .ishr), (25, .laload), (26, .iload_n 1), (27, .bipush 31), (29, .iand), (30, .lshr), (31, .lconst 1), (32, .land), (33, .l2i), (34, .ireturn)]
def jm_c86 : List (Nat × Instr) := [(0, .iconst 0), (1, .istore_n 2), (2, .iload_n 2), (3, .iload_n 1), (4, .if_icmp .ge 32), (7, .iload_n 2), (8, .aload_n 0), (9, .getfield 9), (12, .arraylength), (13, .bipush 32), (15, .imul), (16, .if_icmp .ge 20), (19, .aload_n 0), (20, .iload_n 2), (21, .invokevirtual 59), (24, .iconst 1), (25, .if_icmp .ne 5), (28, .iconst 1), (29, .ireturn), (30, .iinc 2 1), (33, .goto (-31)), (36, .iconst 0), (37, .ireturn)]
def jm_c87 : List (Nat × Instr) := [(0, .aload_n 0), (1, .getfield 12), (4, .iload_n 1), (5, .iload_n 2), (6, .iload_n 3), (7, .invokevirtual 24), (10, .aload_n 0), (11, .getfield 18), (14, .iload_n 1), (15, .iload_n 2), (16, .iload 4), (18, .invokevirtual 24), (21, .iload 5), (23, .tableswitch 61 0 2 #[25, 32, 54]), (48, .aload_n 0), (49, .invokevirtual 28), (52, .goto 36), (55, .aload_n 0), (56, .getfield 18), (59, .aload_n 0), (60, .getfield 18), (63, .getfield 31), (66, .ineg), (67, .putfield 31), (70, .aload_n 0), (71, .invokevirtual 28), (74, .goto 14), (77, .aload_n 0), (78, .invokevirtual 35), (81, .goto 7), (84, .aload_n 0), (85, .invokevirtual 38), (88, .aload_n 0), (89, .iload_n 1), (90, .iload_n 2), (91, .aload_n 0), (92, .getfield 21), (95, .invokevirtual 41), (98, .ireturn)]
def jm_c88 : List (Nat × Instr) := [(0, .aload_n 0), (1, .getfield 12), (4, .getfield 59), (7, .ifCond .ne 13), (10, .aload_n 0), (11, .getfield 18), (14, .getfield 59), (17, .ifCond .eq 11), (20, .aload_n 0), (21, .getfield 21), (24, .invokevirtual 63), (27, .return_), (28, .aload_n 0), (29, .getfield 12), (32, .getfield 31), (35, .ifCond .eq 13), (38, .aload_n 0), (39, .getfield 18), (42, .getfield 31), (45, .ifCond .ne 32), (48, .aload_n 0), (49, .getfield 21), (52, .aload_n 0), (53, .getfield 12), (56, .getfield 31), (59, .ifCond .ne 10), (62, .aload_n 0), (63, .getfield 18), (66, .goto 7), (69, .aload_n 0), (70, .getfield 12), (73, .invokevirtual 55), (76, .return_), (77, .aload_n 0), (78, .getfield 12), (81, .invokevirtual 66), (84, .aload_n 0), (85, .getfield 18), (88, .invokevirtual 66), (91, .if_icmp .lt 7), (94, .iconst 1), (95, .goto 4), (98, .iconst 0), (99, .istore_n 1), (100, .iload_n 1), (101, .ifCond .eq 10), (104, .aload_n 0), (105, .getfield 12), (108, .goto 7), (111, .aload_n 0), (112, .getfield 18), (115, .astore_n 2), (116, .iload_n 1), (117, .ifCond .eq 10), (120, .aload_n 0), (121, .getfield 18), (124, .goto 7), (127, .aload_n 0), (128, .getfield 12), (131, .astore_n 3), (132, .bipush 58), (134, .aload_n 2), (135, .getfield 70), (138, .invokestatic 74), (141, .isub), (142, .istore 4), (144, .aload_n 2), (145, .getfield 52), (148, .iload 4), (150, .isub), (151, .istore 5), (153, .aload_n 2), (154, .getfield 70), (157, .iload 4), (159, .invokestatic 78), (162, .lstore 6), (164, .aload_n 3), (165, .getfield 70), (168, .aload_n 3), (169, .getfield 52), (172, .iload 5), (174, .isub), (175, .invokestatic 78), (178, .lstore 8), (180, .aload_n 2), (181, .getfield 31), (184, .aload_n 3), (185, .getfield 31), (188, .if_icmp .ne 11), (191, .lload 6), (193, .lload 8), (195, .ladd), (196, .goto 8), (199, .lload 6), (201, .lload 8), (203, .lsub), (204, .lstore 10), (206, .aload_n 0), (207, .getfield 21), (210, .lload 10), (212, .lconst 0), (213, .lcmp), (214, .ifCond .ge 11), (217, .aload_n 2), (218, .getfield 31), (221, .ineg), (222, .goto 7), (225, .aload_n 2), (226, .getfield 31), (229, .lload 10), (231, .invokestatic 82), (234, .iload 5), (236, .invokevirtual 88), (239, .return_)]
def jm_c89 : List (Nat × Instr) := [(0, .aload_n 0), (1, .getfield 12), (4, .getfield 59), (7, .ifCond .ne 13), (10, .aload_n 0), (11, .getfield 18), (14, .getfield 59), (17, .ifCond .eq 11), (20, .aload_n 0), (21, .getfield 21), (24, .invokevirtual 63), (27, .return_), (28, .aload_n 0), (29, .getfield 21), (32, .aload_n 0), (33, .getfield 12), (36, .getfield 31), (39, .aload_n 0), (40, .getfield 18), (43, .getfield 31), (46, .imul), (47, .aload_n 0), (48, .getfield 12), (51, .getfield 70), (54, .aload_n 0), (55, .getfield 18), (58, .getfield 70), (61, .lmul), (62, .aload_n 0), (63, .getfield 12), (66, .getfield 52), (69, .aload_n 0), (70, .getfield 18), (73, .getfield 52), (76, .iadd), (77, .invokevirtual 88), (80, .return_)]
def jm_c90 : List (Nat × Instr) := [(0, .aload_n 0), (1, .getfield 12), (4, .getfield 59), (7, .ifCond .ne 25), (10, .aload_n 0), (11, .getfield 18), (14, .getfield 59), (17, .ifCond .ne 15), (20, .aload_n 0), (21, .getfield 18), (24, .getfield 70), (27, .lconst 0), (28, .lcmp), (29, .ifCond .ne 11), (32, .aload_n 0), (33, .getfield 21), (36, .invokevirtual 63), (39, .return_), (40, .aload_n 0), (41, .getfield 12), (44, .getfield 70), (47, .bipush 40), (49, .lshl), (50, .lstore_n 1), (51, .lload_n 1), (52, .aload_n 0), (53, .getfield 18), (56, .getfield 70), (59, .ldiv), (60, .lstore_n 3), (61, .lload_n 3), (62, .aload_n 0), (63, .getfield 18), (66, .getfield 70), (69, .lmul), (70, .lload_n 1), (71, .lcmp), (72, .ifCond .ne 7), (75, .lconst 0), (76, .goto 4), (79, .lconst 1), (80, .lstore 5), (82, .aload_n 0), (83, .getfield 21), (86, .aload_n 0), (87, .getfield 12), (90, .getfield 31), (93, .aload_n 0), (94, .getfield 18), (97, .getfield 31), (100, .imul), (101, .lload_n 3), (102, .lload 5), (104, .lor), (105, .aload_n 0), (106, .getfield 12), (109, .getfield 52), (112, .aload_n 0), (113, .getfield 18), (116, .getfield 52), (119, .isub), (120, .bipush 40), (122, .isub), (123, .invokevirtual 88), (126, .return_)]
def jm_c91 : List (Nat × Instr) := [(0, .aload_n 0), (1, .getfield 91), (4, .ireturn)]
def jm_c92 : List (Nat × Instr) := [(0, .iload_n 1), (1, .iload_n 2), (2, .invokestatic 143), (5, .ifCond .eq 25), (8, .iload_n 1), (9, .aload_n 0), (10, .getfield 53), (13, .getfield 114), (16, .if_icmp .ne 16), (19, .iload_n 2), (20, .aload_n 0), (21, .getfield 53), (24, .getfield 117), (27, .if_icmp .ne 5), (30, .iconst 0), (31, .ireturn), (32, .aload_n 0), (33, .invokevirtual 149), (36, .aload_n 0), (37, .getfield 53), (40, .iload_n 1), (41, .putfield 114), (44, .aload_n 0), (45, .getfield 53), (48, .iload_n 2), (49, .putfield 117), (52, .aload_n 0), (53, .getfield 24), (56, .aload_n 0), (57, .getfield 87), (60, .aload_n 0), (61, .getfield 53), (64, .getfield 114), (67, .aload_n 0), (68, .getfield 53), (71, .getfield 117), (74, .aload_n 0), (75, .getfield 68), (78, .invokevirtual 120), (81, .iconst 1), (82, .ireturn)]
def jm_c93 : List (Nat × Instr) := [(0, .iload_n 0), (1, .iconst 3), (2, .if_icmp .lt 22), (5, .iload_n 0), (6, .bipush 12), (8, .if_icmp .gt 16), (11, .iload_n 1), (12, .ifCond .lt 12), (15, .iload_n 1), (16, .iconst 2), (17, .if_icmp .gt 7), (20, .iconst 1), (21, .goto 4), (24, .iconst 0), (25, .ireturn)]
def jm_c94 : List (Nat × Instr) := [(0, .aload_n 0), (1, .getfield 136), (4, .bipush 40), (6, .if_icmp .lt 24), (9, .aload_n 0), (10, .aload_n 0), (11, .getfield 170), (14, .iconst 1), (15, .iadd), (16, .bipush 40), (18, .invokestatic 173), (21, .putfield 170), (24, .aload_n 0), (25, .bipush 39), (27, .putfield 136), (30, .aload_n 0), (31, .getfield 57), (34, .aload_n 0), (35, .getfield 170), (38, .aload_n 0), (39, .getfield 136), (42, .iadd), (43, .bipush 40), (45, .invokestatic 173), (48, .aaload), (49, .aload_n 0), (50, .getfield 53), (53, .invokevirtual 183), (56, .aload_n 0), (57, .dup), (58, .getfield 136), (61, .iconst 1), (62, .iadd), (63, .putfield 136), (66, .return_)]
def jm_c95 : List (Nat × Instr) := [(0, .iload_n 0), (1, .iload_n 1), (2, .irem), (3, .istore_n 2), (4, .iload_n 0), (5, .iload_n 1), (6, .ixor), (7, .ifCond .ge 11), (10, .iload_n 2), (11, .ifCond .eq 7), (14, .iload_n 2), (15, .iload_n 1), (16, .iadd), (17, .ireturn), (18, .iload_n 2), (19, .ireturn)]
def jm_c96 : List (Nat × Instr) := [(0, .aload_n 0), (1, .getfield 10), (4, .aload_n 1), (5, .getfield 10), (8, .invokevirtual 23), (11, .aload_n 0), (12, .aload_n 1), (13, .getfield 16), (16, .putfield 16), (19, .aload_n 0), (20, .aload_n 1), (21, .getfield 20), (24, .putfield 20), (27, .return_)]
def jm_c97 : List (Nat × Instr) := [(0, .iconst 0), (1, .istore_n 2), (2, .iload_n 2), (3, .aload_n 0), (4, .getfield 9), (7, .arraylength), (8, .if_icmp .ge 30), (11, .iload_n 2), (12, .aload_n 1), (13, .getfield 9), (16, .arraylength), (17, .if_icmp .ge 21), (20, .aload_n 0), (21, .getfield 9), (24, .iload_n 2), (25, .aload_n 1), (26, .getfield 9), (29, .iload_n 2), (30, .laload), (31, .lastore), (32, .iinc 2 1), (35, .goto (-33)), (38, .aload_n 0), (39, .aload_n 1), (40, .getfield 13), (43, .putfield 13), (46, .aload_n 0), (47, .aload_n 1), (48, .getfield 17), (51, .putfield 17), (54, .return_)]
def jm_c98 : List (Nat × Instr) := [(0, .aload_n 0), (1, .getfield 53), (4, .getfield 114), (7, .aload_n 0), (8, .getfield 53), (11, .getfield 117), (14, .iload_n 1), (15, .invokestatic 152), (18, .ifCond .eq 24), (21, .aload_n 0), (22, .getfield 53), (25, .getfield 114), (28, .aload_n 0), (29, .getfield 53), (32, .getfield 117), (35, .iload_n 2), (36, .invokestatic 152), (39, .ifCond .ne 5), (42, .iconst 0), (43, .ireturn), (44, .aload_n 0), (45, .invokevirtual 149), (48, .aload_n 0), (49, .getfield 43), (52, .aload_n 0), (53, .getfield 53), (56, .getfield 114), (59, .aload_n 0), (60, .getfield 53), (63, .getfield 117), (66, .iload_n 1), (67, .invokevirtual 156), (70, .aload_n 0), (71, .getfield 47), (74, .aload_n 0), (75, .getfield 53), (78, .getfield 114), (81, .aload_n 0), (82, .getfield 53), (85, .getfield 117), (88, .iload_n 2), (89, .invokevirtual 156), (92, .aload_n 0), (93, .getfield 53), (96, .getfield 127), (99, .aload_n 0), (100, .getfield 43), (103, .aload_n 0), (104, .getfield 47), (107, .iload_n 3), (108, .invokevirtual 160), (111, .iconst 1), (112, .ireturn)]
def jm_c99 : List (Nat × Instr) := [(0, .iload_n 0), (1, .iload_n 1), (2, .invokestatic 7), (5, .ifCond .eq 18), (8, .iload_n 2), (9, .ifCond .lt 14), (12, .iload_n 2), (13, .iconst 1), (14, .iload_n 0), (15, .ishl), (16, .if_icmp .ge 7), (19, .iconst 1), (20, .goto 4), (23, .iconst 0), (24, .ireturn)]
def jm_c100 : List (Nat × Instr) := [(0, .aload_n 0), (1, .getfield 53), (4, .getfield 127), (7, .getfield 164), (10, .ifCond .ne 18), (13, .aload_n 0), (14, .getfield 53), (17, .getfield 127), (20, .invokevirtual 167), (23, .ifCond .ne 5), (26, .iconst 0), (27, .ireturn), (28, .aload_n 0), (29, .invokevirtual 149), (32, .aload_n 0), (33, .getfield 53), (36, .getfield 127), (39, .invokevirtual 131), (42, .iconst 1), (43, .ireturn)]
def jm_c101 : List (Nat × Instr) := [(0, .aload_n 0), (1, .invokevirtual 20), (4, .ifCond .ge 7), (7, .iconst 0), (8, .goto 15), (11, .aload_n 0), (12, .getfield 13), (15, .ifCond .eq 7), (18, .iconst (-1)), (19, .goto 4), (22, .iconst 1), (23, .ireturn)]
def jm_c102 : List (Nat × Instr) := [(0, .aload_n 0), (1, .getfield 136), (4, .ifCond .gt 5), (7, .iconst 0), (8, .ireturn), (9, .aload_n 0), (10, .dup), (11, .getfield 136), (14, .iconst 1), (15, .isub), (16, .putfield 136), (19, .aload_n 0), (20, .aload_n 0), (21, .getfield 57), (24, .aload_n 0), (25, .getfield 170), (28, .aload_n 0), (29, .getfield 136), (32, .iadd), (33, .bipush 40), (35, .invokestatic 173), (38, .aaload), (39, .invokevirtual 179), (42, .iconst 1), (43, .ireturn)]
def jm_c103 : List (Nat × Instr) := [(0, .aload_n 1), (1, .getfield 114), (4, .aload_n 0), (5, .getfield 53), (8, .getfield 114), (11, .if_icmp .ne 17), (14, .aload_n 1), (15, .getfield 117), (18, .aload_n 0), (19, .getfield 53), (22, .getfield 117), (25, .if_icmp .eq 7), (28, .iconst 1), (29, .goto 4), (32, .iconst 0), (33, .istore_n 2), (34, .aload_n 0), (35, .getfield 53), (38, .aload_n 1), (39, .invokevirtual 183), (42, .iload_n 2), (43, .ifCond .eq 32), (46, .aload_n 0), (47, .getfield 24), (50, .aload_n 0), (51, .getfield 87), (54, .aload_n 0), (55, .getfield 53), (58, .getfield 114), (61, .aload_n 0), (62, .getfield 53), (65, .getfield 117), (68, .aload_n 0), (69, .getfield 68), (72, .invokevirtual 120), (75, .return_)]
def jm_c104 : List (Nat × Instr) := [(0, .iload_n 1), (1, .ifCond .lt 12), (4, .iload_n 1), (5, .aload_n 0), (6, .getfield 63), (9, .arraylength), (10, .if_icmp .lt 5), (13, .iconst 0), (14, .ireturn), (15, .aload_n 0), (16, .getfield 63), (19, .iload_n 1), (20, .aaload), (21, .getfield 186), (24, .aload_n 0), (25, .getfield 53), (28, .invokevirtual 183), (31, .aload_n 0), (32, .getfield 63), (35, .iload_n 1), (36, .aaload), (37, .getfield 189), (40, .aload_n 0), (41, .getfield 20), (44, .invokevirtual 190), (47, .aload_n 0), (48, .getfield 63), (51, .iload_n 1), (52, .aaload), (53, .iconst 1), (54, .putfield 139), (57, .iconst 1), (58, .ireturn)]
def jm_c105 : List (Nat × Instr) := [(0, .aload_n 0), (1, .aload_n 1), (2, .getfield 15), (5, .aload_n 0), (6, .getfield 9), (9, .arraylength), (10, .invokestatic 19), (13, .putfield 15), (16, .iconst 0), (17, .istore_n 2), (18, .iload_n 2), (19, .aload_n 0), (20, .getfield 15), (23, .if_icmp .ge 30), (26, .iload_n 2), (27, .aload_n 1), (28, .getfield 9), (31, .arraylength), (32, .if_icmp .ge 21), (35, .aload_n 0), (36, .getfield 9), (39, .iload_n 2), (40, .aload_n 1), (41, .getfield 9), (44, .iload_n 2), (45, .baload), (46, .bastore), (47, .iinc 2 1), (50, .goto (-32)), (53, .return_)]
def jm_c106 : List (Nat × Instr) := [(0, .iload_n 1), (1, .ifCond .lt 24), (4, .iload_n 1), (5, .aload_n 0), (6, .getfield 63), (9, .arraylength), (10, .if_icmp .ge 15), (13, .aload_n 0), (14, .getfield 63), (17, .iload_n 1), (18, .aaload), (19, .getfield 139), (22, .ifCond .ne 5), (25, .iconst 0), (26, .ireturn), (27, .aload_n 0), (28, .getfield 20), (31, .aload_n 0), (32, .getfield 63), (35, .iload_n 1), (36, .aaload), (37, .getfield 189), (40, .invokevirtual 190), (43, .aload_n 0), (44, .aload_n 0), (45, .getfield 63), (48, .iload_n 1), (49, .aaload), (50, .getfield 186), (53, .invokevirtual 179), (56, .aload_n 0), (57, .iconst 0), (58, .putfield 136), (61, .iconst 1), (62, .ireturn)]
def jm_c107 : List (Nat × Instr) := [(0, .iload_n 1), (1, .iload_n 2), (2, .iload_n 3), (3, .invokestatic 152), (6, .ifCond .eq 15), (9, .iload 4), (11, .ifCond .lt 10), (14, .iload 4), (16, .bipush 11), (18, .if_icmp .le 6), (21, .ldc 193), (23, .ireturn), (24, .iload 4), (26, .bipush 9), (28, .if_icmp .ne 9), (31, .iload_n 1), (32, .iload_n 3), (33, .invokestatic 194), (36, .ireturn), (37, .iload_n 1), (38, .iload_n 3), (39, .invokestatic 197), (42, .ifCond .eq 6), (45, .ldc 193), (47, .ireturn), (48, .iload 4), (50, .lookupswitch 111 #[(0, 42), (8, 51), (10, 69), (11, 88)]), (92, .iload_n 1), (93, .iload_n 3), (94, .invokestatic 200), (97, .invokestatic 203), (100, .ireturn), (101, .aload_n 0), (102, .getfield 43), (105, .iload_n 1), (106, .iload_n 2), (107, .iload_n 3), (108, .invokevirtual 156), (111, .aload_n 0), (112, .getfield 43), (115, .invokevirtual 209), (118, .ireturn), (119, .iload_n 3), (120, .iload_n 1), (121, .invokestatic 212), (124, .if_icmp .ne 8), (127, .bipush (-2)), (129, .goto 8), (132, .iload_n 1), (133, .iload_n 3), (134, .invokestatic 215), (137, .ireturn), (138, .iload_n 3), (139, .iload_n 1), (140, .iload_n 1), (141, .invokestatic 212), (144, .invokestatic 194), (147, .if_icmp .ne 8), (150, .bipush (-2)), (152, .goto 8), (155, .iload_n 1), (156, .iload_n 3), (157, .invokestatic 218), (160, .ireturn), (161, .iload_n 3), (162, .ifCond .ne 8), (165, .ldc 193), (167, .goto 12), (170, .aload_n 0), (171, .iload_n 1), (172, .iload_n 2), (173, .iload_n 3), (174, .iload 4), (176, .invokevirtual 221), (179, .ireturn)]
def jm_c108 : List (Nat × Instr) := [(0, .iload_n 1), (1, .iload_n 0), (2, .invokestatic 17), (5, .if_icmp .lt 11), (8, .iload_n 1), (9, .iconst 1), (10, .iload_n 0), (11, .ishl), (12, .isub), (13, .goto 4), (16, .iload_n 1), (17, .ireturn)]
def jm_c109 : List (Nat × Instr) := [(0, .aload_n 0), (1, .getfield 22), (4, .ifCond .ne 10), (7, .aload_n 0), (8, .getfield 26), (11, .ifCond .ne 5), (14, .iconst 0), (15, .ireturn), (16, .aload_n 0), (17, .invokevirtual 95), (20, .bipush 30), (22, .if_icmp .le 11), (25, .aload_n 0), (26, .getfield 26), (29, .ldc 99), (31, .imul), (32, .ireturn), (33, .aload_n 0), (34, .invokevirtual 95), (37, .iconst (-1)), (38, .if_icmp .ge 5), (41, .iconst 0), (42, .ireturn), (43, .aload_n 0), (44, .getfield 30), (47, .aload_n 0), (48, .getfield 34), (51, .iconst 2), (52, .iadd), (53, .invokestatic 91), (56, .lstore_n 1), (57, .lload_n 1), (58, .iconst 2), (59, .lshr), (60, .lstore_n 3), (61, .lload_n 1), (62, .ldc2_w 100), (65, .land), (66, .lstore 5), (68, .lload 5), (70, .ldc2_w 100), (73, .lcmp), (74, .ifCond .eq 20), (77, .lload 5), (79, .ldc2_w 102), (82, .lcmp), (83, .ifCond .ne 15), (86, .lload_n 3), (87, .lconst 1), (88, .land), (89, .lconst 1), (90, .lcmp), (91, .ifCond .ne 7), (94, .lload_n 3), (95, .lconst 1), (96, .ladd), (97, .lstore_n 3), (98, .aload_n 0), (99, .getfield 26), (102, .lload_n 3), (103, .ldc2_w 104), (106, .invokestatic 106), (109, .l2i), (110, .imul), (111, .ireturn)]
def jm_c110 : List (Nat × Instr) := [(0, .lload_n 0), (1, .lload_n 2), (2, .lcmp), (3, .ifCond .gt 7), (6, .lload_n 0), (7, .goto 4), (10, .lload_n 2), (11, .lreturn)]
def jm_c111 : List (Nat × Instr) := [(0, .iload_n 1), (1, .iconst 1), (2, .iadd), (3, .iconst 1), (4, .iload_n 0), (5, .ishl), (6, .iconst 1), (7, .isub), (8, .iand), (9, .ireturn)]
def jm_c112 : List (Nat × Instr) := [(0, .iload_n 1), (1, .iconst 1), (2, .isub), (3, .iconst 1), (4, .iload_n 0), (5, .ishl), (6, .iconst 1), (7, .isub), (8, .iand), (9, .ireturn)]
def jm_c113 : List (Nat × Instr) := [(0, .aload_n 0), (1, .getfield 43), (4, .iload_n 1), (5, .iload_n 2), (6, .iload_n 3), (7, .invokevirtual 156), (10, .iload 4), (12, .tableswitch 104 1 6 #[40, 51, 62, 73, 84, 95]), (52, .aload_n 0), (53, .getfield 43), (56, .getfield 225), (59, .getfield 229), (62, .ireturn), (63, .aload_n 0), (64, .getfield 43), (67, .getfield 225), (70, .getfield 232), (73, .ireturn), (74, .aload_n 0), (75, .getfield 43), (78, .getfield 225), (81, .getfield 235), (84, .ireturn), (85, .aload_n 0), (86, .getfield 43), (89, .getfield 225), (92, .getfield 238), (95, .ireturn), (96, .aload_n 0), (97, .getfield 43), (100, .getfield 225), (103, .getfield 241), (106, .ireturn), (107, .aload_n 0), (108, .getfield 43), (111, .getfield 244), (114, .l2i), (115, .ireturn), (116, .aload_n 0), (117, .getfield 43), (120, .getfield 248), (123, .ireturn)]
def jm_c114 : List (Nat × Instr) := [(0, .iload_n 1), (1, .iload_n 2), (2, .iload_n 3), (3, .iload 4), (5, .invokestatic 251), (8, .ifCond .ne 6), (11, .bipush (-2)), (13, .ireturn), (14, .iload_n 1), (15, .iload_n 3), (16, .invokestatic 200), (19, .iload_n 1), (20, .iload 4), (22, .invokestatic 200), (25, .invokestatic 255), (28, .ireturn)]
def jm_c115 : List (Nat × Instr) := [(0, .iload_n 0), (1, .iload_n 1), (2, .iload_n 2), (3, .invokestatic 13), (6, .ifCond .eq 16), (9, .iload_n 0), (10, .iload_n 1), (11, .iload_n 3), (12, .invokestatic 13), (15, .ifCond .eq 7), (18, .iconst 1), (19, .goto 4), (22, .iconst 0), (23, .ireturn)]
def jm_c116 : List (Nat × Instr) := [(0, .iload_n 0), (1, .iload_n 1), (2, .if_icmp .ge 7), (5, .iconst (-1)), (6, .goto 13), (9, .iload_n 0), (10, .iload_n 1), (11, .if_icmp .ne 7), (14, .iconst 0), (15, .goto 4), (18, .iconst 1), (19, .ireturn)]
def jm_c117 : List (Nat × Instr) := [(0, .iload_n 1), (1, .iload_n 2), (2, .iload_n 3), (3, .iload 4), (5, .invokestatic 251), (8, .ifCond .eq 20), (11, .iload_n 1), (12, .iload_n 3), (13, .invokestatic 197), (16, .ifCond .ne 12), (19, .iload_n 1), (20, .iload 4), (22, .invokestatic 197), (25, .ifCond .eq 5), (28, .iconst (-1)), (29, .ireturn), (30, .iconst 0), (31, .iload_n 1), (32, .iload 4), (34, .invokestatic 200), (37, .iload_n 1), (38, .iload_n 3), (39, .invokestatic 200), (42, .isub), (43, .iconst 1), (44, .iadd), (45, .invokestatic 258), (48, .ireturn)]
def jm_c118 : List (Nat × Instr) := [(0, .iload_n 1), (1, .iload_n 2), (2, .iload_n 3), (3, .invokestatic 152), (6, .ifCond .ne 5), (9, .iconst (-1)), (10, .ireturn), (11, .aload_n 0), (12, .getfield 43), (15, .iload_n 1), (16, .iload_n 2), (17, .iload_n 3), (18, .invokevirtual 156), (21, .aload_n 0), (22, .getfield 36), (25, .aload_n 0), (26, .getfield 43), (29, .invokevirtual 261), (32, .iload 4), (34, .iconst (-1)), (35, .if_icmp .ne 13), (38, .aload_n 0), (39, .getfield 36), (42, .getfield 265), (45, .goto 12), (48, .aload_n 0), (49, .getfield 36), (52, .iload 4), (54, .invokevirtual 266), (57, .ireturn)]
def jm_c119 : List (Nat × Instr) := [(0, .aload_n 0), (1, .iconst 0), (2, .putfield 15), (5, .aload_n 1), (6, .getfield 19), (9, .ifCond .eq 22), (12, .aload_n 0), (13, .bipush 110), (15, .invokevirtual 25), (18, .aload_n 0), (19, .bipush 105), (21, .invokevirtual 25), (24, .aload_n 0), (25, .bipush 108), (27, .invokevirtual 25), (30, .return_), (31, .aload_n 1), (32, .getfield 29), (35, .ifCond .ge 9), (38, .aload_n 0), (39, .bipush 45), (41, .invokevirtual 25), (44, .iconst 0), (45, .aload_n 1), (46, .getfield 32), (49, .ineg), (50, .bipush 48), (52, .invokestatic 35), (55, .invokestatic 41), (58, .istore_n 2), (59, .iconst 0), (60, .aload_n 1), (61, .getfield 32), (64, .bipush 48), (66, .invokestatic 35), (69, .invokestatic 41), (72, .istore_n 3), (73, .aload_n 0), (74, .aload_n 1), (75, .getfield 44), (78, .iload_n 3), (79, .lshl), (80, .iload_n 2), (81, .lshr), (82, .invokevirtual 48), (85, .lconst 1), (86, .iload_n 2), (87, .lshl), (88, .lconst 1), (89, .lsub), (90, .lstore 4), (92, .aload_n 1), (93, .getfield 44), (96, .lload 4), (98, .land), (99, .lstore 6), (101, .lload 6), (103, .lconst 0), (104, .lcmp), (105, .ifCond .eq 9), (108, .aload_n 0), (109, .bipush 46), (111, .invokevirtual 25), (114, .iconst 0), (115, .istore 8), (117, .iload 8), (119, .iload_n 2), (120, .if_icmp .ge 43), (123, .lload 6), (125, .lconst 0), (126, .lcmp), (127, .ifCond .eq 36), (130, .lload 6), (132, .ldc2_w 52), (135, .lmul), (136, .lstore 6), (138, .aload_n 0), (139, .lload 6), (141, .iload_n 2), (142, .lshr), (143, .l2i), (144, .bipush 48), (146, .iadd), (147, .invokevirtual 25), (150, .lload 6), (152, .lload 4), (154, .land), (155, .lstore 6), (157, .iinc 8 1), (160, .goto (-43)), (163, .return_)]
def jm_c120 : List (Nat × Instr) := [(0, .aload_n 0), (1, .getfield 15), (4, .aload_n 0), (5, .getfield 9), (8, .arraylength), (9, .if_icmp .ge 24), (12, .aload_n 0), (13, .getfield 9), (16, .aload_n 0), (17, .getfield 15), (20, .iload_n 1), (21, .i2b), (22, .bastore), (23, .aload_n 0), (24, .dup), (25, .getfield 15), (28, .iconst 1), (29, .iadd), (30, .putfield 15), (33, .return_)]
def jm_c121 : List (Nat × Instr) := [(0, .lconst 1), (1, .lstore_n 3), (2, .iconst 0), (3, .istore 5), (5, .iload 5), (7, .bipush 17), (9, .if_icmp .ge 25), (12, .lload_n 3), (13, .ldc2_w 52), (16, .lmul), (17, .lload_n 1), (18, .lcmp), (19, .ifCond .gt 15), (22, .lload_n 3), (23, .ldc2_w 52), (26, .lmul), (27, .lstore_n 3), (28, .iinc 5 1), (31, .goto (-26)), (34, .lload_n 3), (35, .lconst 0), (36, .lcmp), (37, .ifCond .le 27), (40, .aload_n 0), (41, .lload_n 1), (42, .lload_n 3), (43, .ldiv), (44, .ldc2_w 52), (47, .lrem), (48, .l2i), (49, .bipush 48), (51, .iadd), (52, .invokevirtual 25), (55, .lload_n 3), (56, .ldc2_w 52), (59, .ldiv), (60, .lstore_n 3), (61, .goto (-27)), (64, .return_)]
def jm_c122 : List (Nat × Instr) := [(0, .iload_n 1), (1, .ifCond .lt 20), (4, .iload_n 1), (5, .aload_n 0), (6, .getfield 15), (9, .if_icmp .ge 12), (12, .iload_n 1), (13, .aload_n 0), (14, .getfield 9), (17, .arraylength), (18, .if_icmp .lt 7), (21, .iconst (-1)), (22, .goto 9), (25, .aload_n 0), (26, .getfield 9), (29, .iload_n 1), (30, .baload), (31, .ireturn)]
def jm_c123 : List (Nat × Instr) := [(0, .iload_n 1), (1, .iload_n 2), (2, .iload_n 3), (3, .invokestatic 152), (6, .ifCond .eq 36), (9, .iload_n 1), (10, .iload_n 3), (11, .invokestatic 197), (14, .ifCond .ne 28), (17, .iload 4), (19, .iconst 1), (20, .if_icmp .lt 22), (23, .iload 4), (25, .sipush 1000), (28, .if_icmp .gt 14), (31, .iload 5), (33, .ifCond .lt 9), (36, .iload 5), (38, .iconst 1), (39, .if_icmp .le 7), (42, .ldc2_w 269), (45, .lreturn), (46, .aload_n 0), (47, .getfield 43), (50, .iload_n 1), (51, .iload_n 2), (52, .iload_n 3), (53, .invokevirtual 156), (56, .aload_n 0), (57, .getfield 43), (60, .iload 4), (62, .invokevirtual 271), (65, .istore 6), (67, .iload 5), (69, .iconst 1), (70, .if_icmp .ne 9), (73, .iload 6), (75, .i2l), (76, .goto 12), (79, .aload_n 0), (80, .getfield 43), (83, .iload 6), (85, .invokevirtual 274), (88, .lreturn)]
def jm_c124 : List (Nat × Instr) := [(0, .iconst 1), (1, .istore_n 2), (2, .aload_n 0), (3, .iconst 1), (4, .invokevirtual 119), (7, .lstore_n 3), (8, .iconst 2), (9, .istore 5), (11, .iload 5), (13, .iload_n 1), (14, .if_icmp .gt 43), (17, .lload_n 3), (18, .lconst 0), (19, .lcmp), (20, .ifCond .eq 37), (23, .aload_n 0), (24, .iload 5), (26, .invokevirtual 119), (29, .lstore 6), (31, .lload 6), (33, .iload_n 2), (34, .i2l), (35, .lmul), (36, .lload_n 3), (37, .iload 5), (39, .i2l), (40, .lmul), (41, .lcmp), (42, .ifCond .ge 9), (45, .iload 5), (47, .istore_n 2), (48, .lload 6), (50, .lstore_n 3), (51, .iinc 5 1), (54, .goto (-43)), (57, .iload_n 2), (58, .ireturn)]
def jm_c125 : List (Nat × Instr) := [(0, .aload_n 0), (1, .invokevirtual 115), (4, .iload_n 1), (5, .i2l), (6, .lmul), (7, .aload_n 0), (8, .iload_n 1), (9, .invokevirtual 123), (12, .aload_n 0), (13, .invokevirtual 112), (16, .lshl), (17, .lsub), (18, .invokestatic 43), (21, .lreturn)]
def jm_c126 : List (Nat × Instr) := [(0, .aload_n 0), (1, .getfield 26), (4, .i2l), (5, .aload_n 0), (6, .getfield 30), (9, .iconst 0), (10, .aload_n 0), (11, .getfield 34), (14, .bipush 48), (16, .invokestatic 85), (19, .invokestatic 109), (22, .lshl), (23, .lmul), (24, .lreturn)]
def jm_c127 : List (Nat × Instr) := [(0, .aload_n 0), (1, .invokevirtual 112), (4, .istore_n 2), (5, .aload_n 0), (6, .invokevirtual 115), (9, .iload_n 1), (10, .i2l), (11, .lmul), (12, .lstore_n 3), (13, .lload_n 3), (14, .iload_n 2), (15, .lshr), (16, .lstore 5), (18, .lload_n 3), (19, .lload 5), (21, .iload_n 2), (22, .lshl), (23, .lsub), (24, .lstore 7), (26, .lload 7), (28, .lconst 1), (29, .iload_n 2), (30, .lshl), (31, .lload 7), (33, .lsub), (34, .lcmp), (35, .ifCond .le 10), (38, .lload 5), (40, .lconst 1), (41, .ladd), (42, .goto 5), (45, .lload 5), (47, .lreturn)]
def jm_c128 : List (Nat × Instr) := [(0, .iconst 0), (1, .aload_n 0), (2, .getfield 34), (5, .ineg), (6, .bipush 48), (8, .invokestatic 85), (11, .invokestatic 109), (14, .ireturn)]
def jm_c129 : List (Nat × Instr) := [(0, .iload_n 1), (1, .iload_n 2), (2, .iload_n 3), (3, .iload 4), (5, .invokestatic 251), (8, .ifCond .eq 14), (11, .iload 5), (13, .ifCond .lt 9), (16, .iload 5), (18, .iconst 3), (19, .if_icmp .le 5), (22, .iconst (-1)), (23, .ireturn), (24, .aload_n 0), (25, .getfield 32), (28, .iload_n 1), (29, .iload_n 2), (30, .iload_n 3), (31, .iload 4), (33, .iload 5), (35, .invokevirtual 278), (38, .ireturn)]
def jm_c130 : List (Nat × Instr) := [(0, .iload_n 1), (1, .iload_n 2), (2, .iload_n 3), (3, .iload 4), (5, .invokestatic 251), (8, .ifCond .eq 14), (11, .iload 5), (13, .ifCond .lt 9), (16, .iload 5), (18, .iconst 3), (19, .if_icmp .le 5), (22, .iconst (-1)), (23, .ireturn), (24, .aload_n 0), (25, .getfield 32), (28, .iload_n 1), (29, .iload_n 2), (30, .iload_n 3), (31, .iload 4), (33, .iload 5), (35, .invokevirtual 278), (38, .pop), (39, .aload_n 0), (40, .getfield 32), (43, .getfield 284), (46, .ireturn)]
def jm_c131 : List (Nat × Instr) := [(0, .iload_n 1), (1, .iload_n 2), (2, .iload_n 3), (3, .invokestatic 152), (6, .ifCond .ne 5), (9, .iconst (-1)), (10, .ireturn), (11, .aload_n 0), (12, .getfield 32), (15, .iload_n 1), (16, .iload_n 2), (17, .iload_n 3), (18, .invokevirtual 287), (21, .ireturn)]
def jm_c132 : List (Nat × Instr) := [(0, .iload_n 1), (1, .iload_n 2), (2, .iload_n 3), (3, .invokestatic 152), (6, .ifCond .eq 13), (9, .iload 4), (11, .iload 5), (13, .invokestatic 143), (16, .ifCond .ne 5), (19, .iconst (-1)), (20, .ireturn), (21, .aload_n 0), (22, .getfield 43), (25, .iload_n 1), (26, .iload_n 2), (27, .iload_n 3), (28, .invokevirtual 156), (31, .aload_n 0), (32, .getfield 32), (35, .iload 4), (37, .iload 5), (39, .aload_n 0), (40, .getfield 43), (43, .invokevirtual 291), (46, .ireturn)]
def jm_c133 : List (Nat × Instr) := [(0, .iload_n 1), (1, .iload_n 2), (2, .invokestatic 143), (5, .ifCond .eq 18), (8, .iload_n 3), (9, .invokestatic 295), (12, .ifCond .eq 11), (15, .iload 4), (17, .invokestatic 295), (20, .ifCond .ne 5), (23, .iconst (-1)), (24, .ireturn), (25, .aload_n 0), (26, .getfield 32), (29, .iload_n 1), (30, .iload_n 2), (31, .iload_n 3), (32, .iload 4), (34, .invokevirtual 299), (37, .ireturn)]
def jm_c134 : List (Nat × Instr) := [(0, .iload_n 0), (1, .ldc_w 302), (4, .if_icmp .lt 14), (7, .iload_n 0), (8, .ldc_w 303), (11, .if_icmp .gt 7), (14, .iconst 1), (15, .goto 4), (18, .iconst 0), (19, .ireturn)]
def jm_c135 : List (Nat × Instr) := [(0, .aload_n 0), (1, .getfield 12), (4, .iload_n 3), (5, .invokevirtual 48), (8, .aload_n 0), (9, .getfield 18), (12, .iload 4), (14, .invokevirtual 48), (17, .aload_n 0), (18, .invokevirtual 38), (21, .aload_n 0), (22, .iload_n 1), (23, .iload_n 2), (24, .aload_n 0), (25, .getfield 21), (28, .invokevirtual 41), (31, .ireturn)]
def jm_c136 : List (Nat × Instr) := [(0, .iload_n 1), (1, .iload_n 2), (2, .iload_n 3), (3, .iload 4), (5, .invokestatic 251), (8, .ifCond .eq 13), (11, .iload_n 1), (12, .iload_n 2), (13, .iload 5), (15, .invokestatic 152), (18, .ifCond .ne 5), (21, .iconst (-1)), (22, .ireturn), (23, .aload_n 0), (24, .getfield 32), (27, .iload_n 1), (28, .iload_n 2), (29, .iload_n 3), (30, .iload 4), (32, .iload 5), (34, .invokevirtual 304), (37, .ireturn)]
def jm_c137 : List (Nat × Instr) := [(0, .aload_n 0), (1, .getfield 12), (4, .iload_n 1), (5, .iload_n 2), (6, .iload_n 3), (7, .invokevirtual 24), (10, .aload_n 0), (11, .getfield 18), (14, .iload_n 1), (15, .iload_n 2), (16, .iload 4), (18, .invokevirtual 24), (21, .aload_n 0), (22, .invokevirtual 35), (25, .aload_n 0), (26, .getfield 12), (29, .aload_n 0), (30, .getfield 21), (33, .invokevirtual 55), (36, .aload_n 0), (37, .getfield 18), (40, .iload_n 1), (41, .iload_n 2), (42, .iload 5), (44, .invokevirtual 24), (47, .aload_n 0), (48, .invokevirtual 28), (51, .aload_n 0), (52, .iload_n 1), (53, .iload_n 2), (54, .aload_n 0), (55, .getfield 21), (58, .invokevirtual 41), (61, .ireturn)]
def jm_c138 : List (Nat × Instr) := [(0, .iload_n 1), (1, .iload_n 2), (2, .iload_n 3), (3, .iload 4), (5, .invokestatic 251), (8, .ifCond .eq 14), (11, .iload 5), (13, .ifCond .lt 9), (16, .iload 5), (18, .iconst 2), (19, .if_icmp .le 5), (22, .iconst (-1)), (23, .ireturn), (24, .aload_n 0), (25, .getfield 72), (28, .iconst (-1)), (29, .invokestatic 78), (32, .iload 4), (34, .istore 6), (36, .iconst 0), (37, .istore 7), (39, .iconst (-1)), (40, .istore 8), (42, .iconst 0), (43, .istore 9), (45, .iload 7), (47, .sipush 4096), (50, .if_icmp .gt 91), (53, .iload 8), (55, .iconst (-1)), (56, .if_icmp .ne 85), (59, .iload 9), (61, .ifCond .ne 80), (64, .iload 6), (66, .ifCond .lt 75), (69, .iload 6), (71, .aload_n 0), (72, .getfield 72), (75, .arraylength), (76, .if_icmp .ge 65), (79, .aload_n 0), (80, .getfield 72), (83, .iload 6), (85, .iload 7), (87, .iastore), (88, .aload_n 0), (89, .iload_n 1), (90, .iload_n 2), (91, .iload_n 3), (92, .iload 6), (94, .invokevirtual 307), (97, .istore 6), (99, .iinc 7 1), (102, .iload_n 1), (103, .iload 6), (105, .invokestatic 197), (108, .istore 9), (110, .iload 6), (112, .ifCond .lt 13), (115, .iload 6), (117, .aload_n 0), (118, .getfield 72), (121, .arraylength), (122, .if_icmp .lt 7), (125, .iconst (-1)), (126, .goto 10), (129, .aload_n 0), (130, .getfield 72), (133, .iload 6), (135, .iaload), (136, .istore 8), (138, .goto (-93)), (141, .iload 5), (143, .ifCond .ne 6), (146, .iload 7), (148, .ireturn), (149, .iload 5), (151, .iconst 1), (152, .if_icmp .ne 6), (155, .iload 6), (157, .ireturn), (158, .iload 9), (160, .ifCond .eq 7), (163, .iconst 0), (164, .goto 8), (167, .iload 7), (169, .iload 8), (171, .isub), (172, .ireturn)]
def jm_c139 : List (Nat × Instr) := [(0, .aload_n 0), (1, .getfield 32), (4, .iload_n 1), (5, .iload_n 2), (6, .iload_n 3), (7, .iload 4), (9, .iconst 3), (10, .invokevirtual 278), (13, .istore 5), (15, .aload_n 0), (16, .getfield 32), (19, .iload_n 1), (20, .iload_n 2), (21, .aload_n 0), (22, .getfield 32), (25, .iload_n 1), (26, .iload_n 2), (27, .iload 4), (29, .iload 5), (31, .iconst 0), (32, .invokevirtual 278), (35, .invokevirtual 310), (38, .ireturn)]
def jm_c140 : List (Nat × Instr) := [(0, .aload_n 0), (1, .getfield 21), (4, .iload_n 1), (5, .iload_n 2), (6, .iload_n 3), (7, .invokevirtual 24), (10, .aload_n 0), (11, .getfield 21), (14, .dup), (15, .getfield 52), (18, .iconst 1), (19, .isub), (20, .putfield 52), (23, .aload_n 0), (24, .iload_n 1), (25, .iload_n 2), (26, .aload_n 0), (27, .getfield 21), (30, .invokevirtual 41), (33, .ireturn)]
def jm_c141 : List (Nat × Instr) := [(0, .iload_n 1), (1, .iload_n 2), (2, .iload_n 3), (3, .invokestatic 152), (6, .ifCond .eq 15), (9, .iload 4), (11, .ifCond .lt 10), (14, .iload 4), (16, .bipush 50), (18, .if_icmp .le 5), (21, .iconst (-1)), (22, .ireturn), (23, .iload_n 1), (24, .invokestatic 313), (27, .istore 5), (29, .iconst 0), (30, .istore 6), (32, .iload 6), (34, .iload 4), (36, .if_icmp .ge 24), (39, .aload_n 0), (40, .getfield 32), (43, .iload_n 1), (44, .iload_n 2), (45, .iload 5), (47, .iload_n 3), (48, .iconst 2), (49, .invokevirtual 278), (52, .istore 5), (54, .iinc 6 1), (57, .goto (-25)), (60, .iload 5), (62, .ireturn)]
def jm_c142 : List (Nat × Instr) := [(0, .iconst 1), (1, .iload_n 0), (2, .iconst 2), (3, .isub), (4, .ishl), (5, .ireturn)]
def jm_c143 : List (Nat × Instr) := [(0, .iload_n 1), (1, .iload_n 2), (2, .invokestatic 143), (5, .ifCond .eq 12), (8, .iload_n 3), (9, .ifCond .lt 8), (12, .iload_n 3), (13, .iconst 2), (14, .if_icmp .le 5), (17, .iconst (-1)), (18, .ireturn), (19, .iload_n 1), (20, .bipush 6), (22, .if_icmp .le 6), (25, .bipush (-2)), (27, .ireturn), (28, .iload_n 1), (29, .iconst 3), (30, .isub), (31, .iconst 3), (32, .imul), (33, .iload_n 2), (34, .iadd), (35, .iconst 3), (36, .imul), (37, .iload_n 3), (38, .iadd), (39, .istore 4), (41, .iload 4), (43, .aload_n 0), (44, .getfield 75), (47, .arraylength), (48, .if_icmp .lt 5), (51, .iconst (-1)), (52, .ireturn), (53, .aload_n 0), (54, .getfield 75), (57, .iload 4), (59, .iaload), (60, .iconst (-1)), (61, .if_icmp .ne 34), (64, .aload_n 0), (65, .getfield 75), (68, .iload 4), (70, .aload_n 0), (71, .iload_n 1), (72, .iload_n 2), (73, .iload_n 3), (74, .ifCond .ne 7), (77, .iconst 0), (78, .goto 13), (81, .iload_n 3), (82, .iconst 1), (83, .if_icmp .ne 7), (86, .iconst 2), (87, .goto 4), (90, .iconst 3), (91, .invokevirtual 316), (94, .iastore), (95, .aload_n 0), (96, .getfield 75), (99, .iload 4), (101, .iaload), (102, .ireturn)]
def jm_c144 : List (Nat × Instr) := [(0, .iconst 0), (1, .istore 4), (3, .iconst 0), (4, .istore 5), (6, .iload 5), (8, .iconst 1), (9, .iload_n 1), (10, .ishl), (11, .if_icmp .ge 61), (14, .iconst 0), (15, .istore 6), (17, .iload 6), (19, .iconst 1), (20, .iload_n 1), (21, .ishl), (22, .if_icmp .ge 44), (25, .aload_n 0), (26, .getfield 32), (29, .iload_n 1), (30, .iload_n 2), (31, .iload 5), (33, .iload 6), (35, .iload_n 3), (36, .invokevirtual 278), (39, .pop), (40, .iload 4), (42, .aload_n 0), (43, .getfield 32), (46, .getfield 284), (49, .ifCond .ne 7), (52, .iconst 1), (53, .goto 4), (56, .iconst 0), (57, .iadd), (58, .istore 4), (60, .iinc 6 1), (63, .goto (-46)), (66, .iinc 5 1), (69, .goto (-63)), (72, .iload 4), (74, .ireturn)]
def jm_c145 : List (Nat × Instr) := [(0, .iload_n 1), (1, .bipush (-100)), (3, .if_icmp .lt 9), (6, .iload_n 1), (7, .bipush 100), (9, .if_icmp .le 5), (12, .iconst (-1)), (13, .ireturn), (14, .aload_n 0), (15, .getfield 53), (18, .getfield 127), (21, .getfield 164), (24, .ifCond .eq 8), (27, .bipush (-2)), (29, .goto 14), (32, .aload_n 0), (33, .getfield 53), (36, .getfield 127), (39, .iload_n 1), (40, .invokevirtual 319), (43, .ireturn)]
def jm_c146 : List (Nat × Instr) := [(0, .aload_n 0), (1, .iload_n 1), (2, .bipush (-96)), (4, .isub), (5, .invokevirtual 59), (8, .ireturn)]
def jm_c147 : List (Nat × Instr) := [(0, .iload_n 1), (1, .iload_n 2), (2, .invokestatic 143), (5, .ifCond .ne 5), (8, .iconst (-1)), (9, .ireturn), (10, .aload_n 0), (11, .getfield 53), (14, .getfield 127), (17, .aload_n 0), (18, .getfield 43), (21, .invokevirtual 322), (24, .aload_n 0), (25, .getfield 32), (28, .iload_n 1), (29, .iload_n 2), (30, .aload_n 0), (31, .getfield 43), (34, .invokevirtual 291), (37, .ireturn)]
def jm_c148 : List (Nat × Instr) := [(0, .iload_n 1), (1, .ifCond .lt 32), (4, .iload_n 1), (5, .aload_n 0), (6, .getfield 87), (9, .getfield 325), (12, .if_icmp .ge 21), (15, .iload_n 1), (16, .aload_n 0), (17, .getfield 68), (20, .arraylength), (21, .if_icmp .ge 12), (24, .iload_n 2), (25, .ifCond .lt 8), (28, .iload_n 2), (29, .iconst 3), (30, .if_icmp .le 6), (33, .ldc 193), (35, .ireturn), (36, .iload_n 2), (37, .ifCond .ne 10), (40, .aload_n 0), (41, .getfield 68), (44, .iload_n 1), (45, .iaload), (46, .ireturn), (47, .aload_n 0), (48, .getfield 43), (51, .aload_n 0), (52, .getfield 53), (55, .getfield 114), (58, .aload_n 0), (59, .getfield 53), (62, .getfield 117), (65, .aload_n 0), (66, .getfield 68), (69, .iload_n 1), (70, .iaload), (71, .invokevirtual 156), (74, .aload_n 0), (75, .getfield 43), (78, .getfield 327), (81, .ifCond .ne 18), (84, .iload_n 2), (85, .iconst 1), (86, .if_icmp .le 16), (89, .aload_n 0), (90, .getfield 43), (93, .getfield 328), (96, .ifCond .ne 6), (99, .bipush (-2)), (101, .ireturn), (102, .iload_n 2), (103, .iconst 1), (104, .if_icmp .ne 11), (107, .aload_n 0), (108, .getfield 43), (111, .invokevirtual 209), (114, .ireturn), (115, .iload_n 2), (116, .iconst 2), (117, .if_icmp .ne 14), (120, .aload_n 0), (121, .getfield 43), (124, .getfield 244), (127, .l2i), (128, .goto 10), (131, .aload_n 0), (132, .getfield 43), (135, .getfield 248), (138, .ireturn)]
def jm_c149 : List (Nat × Instr) := [(0, .iload_n 1), (1, .tableswitch 205 0 10 #[59, 67, 75, 83, 112, 117, 122, 130, 135, 140, 183]), (60, .aload_n 0), (61, .getfield 53), (64, .getfield 114), (67, .ireturn), (68, .aload_n 0), (69, .getfield 53), (72, .getfield 117), (75, .ireturn), (76, .aload_n 0), (77, .getfield 87), (80, .getfield 325), (83, .ireturn), (84, .aload_n 0), (85, .getfield 53), (88, .getfield 127), (91, .getfield 164), (94, .ifCond .eq 8), (97, .bipush (-2)), (99, .goto 13), (102, .aload_n 0), (103, .getfield 53), (106, .getfield 127), (109, .invokevirtual 167), (112, .ireturn), (113, .aload_n 0), (114, .invokevirtual 330), (117, .ireturn), (118, .aload_n 0), (119, .invokevirtual 333), (122, .ireturn), (123, .aload_n 0), (124, .getfield 20), (127, .getfield 95), (130, .ireturn), (131, .aload_n 0), (132, .getfield 136), (135, .ireturn), (136, .aload_n 0), (137, .invokevirtual 336), (140, .ireturn), (141, .aload_n 0), (142, .getfield 53), (145, .getfield 127), (148, .getfield 164), (151, .ifCond .ne 16), (154, .aload_n 0), (155, .getfield 53), (158, .getfield 127), (161, .invokevirtual 167), (164, .ifCond .ne 9), (167, .sipush (-1000)), (170, .goto 13), (173, .aload_n 0), (174, .getfield 53), (177, .getfield 127), (180, .invokevirtual 339), (183, .ireturn), (184, .aload_n 0), (185, .getfield 53), (188, .getfield 127), (191, .aload_n 0), (192, .getfield 43), (195, .invokevirtual 322), (198, .aload_n 0), (199, .getfield 43), (202, .invokevirtual 209), (205, .ireturn), (206, .iconst (-1)), (207, .ireturn)]
def jm_c150 : List (Nat × Instr) := [(0, .iconst 0), (1, .istore_n 1), (2, .iconst 0), (3, .istore_n 2), (4, .iload_n 2), (5, .aload_n 0), (6, .getfield 87), (9, .getfield 325), (12, .if_icmp .ge 43), (15, .iload_n 2), (16, .aload_n 0), (17, .getfield 68), (20, .arraylength), (21, .if_icmp .ge 34), (24, .aload_n 0), (25, .getfield 53), (28, .getfield 114), (31, .aload_n 0), (32, .getfield 68), (35, .iload_n 2), (36, .iaload), (37, .invokestatic 197), (40, .ifCond .eq 9), (43, .iload_n 1), (44, .iconst 1), (45, .iload_n 2), (46, .ishl), (47, .ior), (48, .istore_n 1), (49, .iinc 2 1), (52, .goto (-48)), (55, .iload_n 1), (56, .ireturn)]
def jm_c151 : List (Nat × Instr) := [(0, .iconst 0), (1, .istore_n 1), (2, .iconst 0), (3, .istore_n 2), (4, .iload_n 2), (5, .aload_n 0), (6, .getfield 87), (9, .getfield 325), (12, .if_icmp .ge 73), (15, .iload_n 2), (16, .aload_n 0), (17, .getfield 68), (20, .arraylength), (21, .if_icmp .ge 64), (24, .iconst 1), (25, .istore_n 3), (26, .iconst 0), (27, .istore 4), (29, .iload 4), (31, .iload_n 2), (32, .if_icmp .ge 35), (35, .iload_n 3), (36, .ifCond .eq 23), (39, .aload_n 0), (40, .getfield 68), (43, .iload 4), (45, .iaload), (46, .aload_n 0), (47, .getfield 68), (50, .iload_n 2), (51, .iaload), (52, .if_icmp .eq 7), (55, .iconst 1), (56, .goto 4), (59, .iconst 0), (60, .istore_n 3), (61, .iinc 4 1), (64, .goto (-35)), (67, .iload_n 1), (68, .iload_n 3), (69, .ifCond .eq 7), (72, .iconst 1), (73, .goto 4), (76, .iconst 0), (77, .iadd), (78, .istore_n 1), (79, .iinc 2 1), (82, .goto (-78)), (85, .iload_n 1), (86, .ireturn)]
def jm_c152 : List (Nat × Instr) := [(0, .iconst 0), (1, .istore_n 1), (2, .iconst 0), (3, .istore_n 2), (4, .iload_n 2), (5, .aload_n 0), (6, .getfield 63), (9, .arraylength), (10, .if_icmp .ge 29), (13, .iload_n 1), (14, .aload_n 0), (15, .getfield 63), (18, .iload_n 2), (19, .aaload), (20, .getfield 139), (23, .ifCond .eq 7), (26, .iconst 1), (27, .goto 4), (30, .iconst 0), (31, .iadd), (32, .istore_n 1), (33, .iinc 2 1), (36, .goto (-32)), (39, .iload_n 1), (40, .ireturn)]
def jm_c153 : List (Nat × Instr) := [(0, .aload_n 0), (1, .invokevirtual 20), (4, .bipush (-96)), (6, .iadd), (7, .ireturn)]
def jm_c154 : List (Nat × Instr) := [(0, .aload_n 0), (1, .invokespecial 7), (4, .aload_n 0), (5, .sipush 2000), (8, .newarray .byte), (10, .putfield 13), (13, .aload_n 0), (14, .sipush 2000), (17, .newarray .byte), (19, .putfield 17), (22, .aload_n 0), (23, .sipush 403), (26, .newarray .int), (28, .putfield 20), (31, .aload_n 0), (32, .sipush 403), (35, .newarray .int), (37, .putfield 24), (40, .aload_n 0), (41, .sipush 403), (44, .newarray .int), (46, .putfield 27), (49, .aload_n 0), (50, .sipush 403), (53, .newarray .long), (55, .putfield 30), (58, .aload_n 0), (59, .iconst 4), (60, .newarray .long), (62, .putfield 34), (65, .aload_n 0), (66, .iconst (-1)), (67, .putfield 37), (70, .aload_n 0), (71, .bipush 20), (73, .newarray .int), (75, .putfield 40), (78, .aload_n 0), (79, .sipush 410), (82, .newarray .int), (84, .putfield 43), (87, .aload_n 0), (88, .sipush 410), (91, .newarray .int), (93, .putfield 46), (96, .aload_n 0), (97, .bipush 9), (99, .newarray .int), (101, .putfield 49), (104, .aload_n 0), (105, .bipush 8), (107, .newarray .long), (109, .putfield 52), (112, .aload_n 0), (113, .bipush 8), (115, .newarray .int), (117, .putfield 55), (120, .aload_n 0), (121, .sipush 410), (124, .newarray .int), (126, .putfield 58), (129, .aload_n 0), (130, .sipush 410), (133, .newarray .int), (135, .putfield 61), (138, .aload_n 0), (139, .bipush 9), (141, .newarray .int), (143, .putfield 64), (146, .aload_n 0), (147, .bipush 8), (149, .newarray .int), (151, .putfield 67), (154, .aload_n 0), (155, .bipush 8), (157, .newarray .int), (159, .putfield 70), (162, .aload_n 0), (163, .sipush 400), (166, .newarray .int), (168, .putfield 73), (171, .aload_n 0), (172, .sipush 400), (175, .newarray .int), (177, .putfield 76), (180, .aload_n 0), (181, .sipush 410), (184, .newarray .int), (186, .putfield 79), (189, .aload_n 0), (190, .sipush 800), (193, .newarray .int), (195, .putfield 82), (198, .aload_n 0), (199, .bipush 60), (201, .newarray .int), (203, .putfield 85), (206, .aload_n 0), (207, .iconst 3), (208, .newarray .boolean), (210, .putfield 88), (213, .aload_n 0), (214, .bipush 16), (216, .newarray .int), (218, .putfield 92), (221, .aload_n 0), (222, .bipush 16), (224, .newarray .int), (226, .putfield 95), (229, .aload_n 0), (230, .bipush 100), (232, .newarray .int), (234, .putfield 98), (237, .aload_n 0), (238, .sipush 4096), (241, .newarray .int), (243, .putfield 101), (246, .aload_n 0), (247, .getfield 34), (250, .iconst 0), (251, .bipush 115), (253, .bipush 105), (255, .bipush 122), (257, .bipush 101), (259, .iconst 0), (260, .iconst 0), (261, .iconst 0), (262, .invokestatic 104), (265, .lastore), (266, .aload_n 0), (267, .getfield 34), (270, .iconst 1), (271, .bipush 108), (273, .bipush 101), (275, .bipush 116), (277, .iconst 0), (278, .iconst 0), (279, .iconst 0), (280, .iconst 0), (281, .invokestatic 104), (284, .lastore), (285, .aload_n 0), (286, .getfield 34), (289, .iconst 2), (290, .bipush 114), (292, .bipush 111), (294, .bipush 111), (296, .bipush 116), (298, .iconst 0), (299, .iconst 0), (300, .iconst 0), (301, .invokestatic 104), (304, .lastore), (305, .aload_n 0), (306, .getfield 34), (309, .iconst 3), (310, .bipush 115), (312, .bipush 117), (314, .bipush 109), (316, .iconst 0), (317, .iconst 0), (318, .iconst 0), (319, .iconst 0), (320, .invokestatic 104), (323, .lastore), (324, .aload_n 0), (325, .getfield 40), (328, .iconst 0), (329, .bipush 8), (331, .iastore), (332, .aload_n 0), (333, .getfield 40), (336, .iconst 1), (337, .iconst 1), (338, .iastore), (339, .return_)]
def jm_c155 : List (Nat × Instr) := [(0, .lconst 0), (1, .iload_n 0), (2, .invokestatic 120), (5, .iload_n 1), (6, .invokestatic 120), (9, .iload_n 2), (10, .invokestatic 120), (13, .iload_n 3), (14, .invokestatic 120), (17, .iload 4), (19, .invokestatic 120), (22, .iload 5), (24, .invokestatic 120), (27, .iload 6), (29, .invokestatic 120), (32, .lreturn)]
def jm_c156 : List (Nat × Instr) := [(0, .iload_n 2), (1, .ifCond .ne 7), (4, .lload_n 0), (5, .goto 16), (8, .ldc2_w 118), (11, .lload_n 0), (12, .lmul), (13, .iload_n 2), (14, .bipush 97), (16, .isub), (17, .iconst 1), (18, .iadd), (19, .i2l), (20, .ladd), (21, .lreturn)]
def jm_c157 : List (Nat × Instr) := [(0, .aload_n 0), (1, .getfield 108), (4, .bipush 20), (6, .iadd), (7, .sipush 2000), (10, .if_icmp .le 5), (13, .iconst (-1)), (14, .ireturn), (15, .aload_n 0), (16, .iload_n 1), (17, .invokevirtual 111), (20, .aload_n 0), (21, .iload_n 2), (22, .invokevirtual 111), (25, .aload_n 0), (26, .iload_n 3), (27, .invokevirtual 111), (30, .aload_n 0), (31, .iload 4), (33, .invokevirtual 111), (36, .aload_n 0), (37, .iload 5), (39, .invokevirtual 111), (42, .aload_n 0), (43, .getfield 108), (46, .ireturn)]
def jm_c158 : List (Nat × Instr) := [(0, .bipush 24), (2, .istore_n 2), (3, .iload_n 2), (4, .ifCond .lt 32), (7, .aload_n 0), (8, .getfield 13), (11, .aload_n 0), (12, .getfield 108), (15, .iload_n 1), (16, .iload_n 2), (17, .ishr), (18, .i2b), (19, .bastore), (20, .aload_n 0), (21, .dup), (22, .getfield 108), (25, .iconst 1), (26, .iadd), (27, .putfield 108), (30, .iinc 2 (-8)), (33, .goto (-30)), (36, .return_)]
def jm_c159 : List (Nat × Instr) := [(0, .iload_n 1), (1, .ifCond .lt 11), (4, .iload_n 1), (5, .aload_n 0), (6, .getfield 108), (9, .if_icmp .le 5), (12, .iconst (-1)), (13, .ireturn), (14, .aload_n 0), (15, .dup), (16, .getfield 108), (19, .iload_n 1), (20, .isub), (21, .putfield 108), (24, .aload_n 0), (25, .getfield 108), (28, .ireturn)]
def jm_c160 : List (Nat × Instr) := [(0, .aload_n 0), (1, .aload_n 0), (2, .getfield 108), (5, .putfield 115), (8, .iconst 0), (9, .istore_n 1), (10, .iload_n 1), (11, .aload_n 0), (12, .getfield 115), (15, .if_icmp .ge 21), (18, .aload_n 0), (19, .getfield 17), (22, .iload_n 1), (23, .aload_n 0), (24, .getfield 13), (27, .iload_n 1), (28, .baload), (29, .bastore), (30, .iinc 1 1), (33, .goto (-23)), (36, .aload_n 0), (37, .iconst 0), (38, .putfield 108), (41, .aload_n 0), (42, .invokevirtual 173), (45, .aload_n 0), (46, .iconst 0), (47, .putfield 152), (50, .aload_n 0), (51, .iconst 0), (52, .putfield 149), (55, .aload_n 0), (56, .iconst 0), (57, .putfield 158), (60, .aload_n 0), (61, .iconst 0), (62, .putfield 176), (65, .aload_n 0), (66, .bipush 20), (68, .invokevirtual 179), (71, .aload_n 0), (72, .iconst 2), (73, .invokevirtual 179), (76, .aload_n 0), (77, .iconst 2), (78, .invokevirtual 179), (81, .aload_n 0), (82, .iconst 4), (83, .invokevirtual 179), (86, .aload_n 0), (87, .getfield 149), (90, .ifCond .ne 18), (93, .aload_n 0), (94, .iconst 0), (95, .invokevirtual 167), (98, .ifCond .ne 10), (101, .aload_n 0), (102, .invokevirtual 182), (105, .goto (-19)), (108, .aload_n 0), (109, .getfield 149), (112, .ifCond .ne 7), (115, .aload_n 0), (116, .invokevirtual 185), (119, .aload_n 0), (120, .aload_n 0), (121, .getfield 149), (124, .ifCond .le 10), (127, .aload_n 0), (128, .getfield 155), (131, .goto 18), (134, .aload_n 0), (135, .getfield 158), (138, .ifCond .le 10), (141, .aload_n 0), (142, .getfield 161), (145, .goto 4), (148, .iconst (-1)), (149, .putfield 37), (152, .aload_n 0), (153, .getfield 149), (156, .ifCond .le 8), (159, .aload_n 0), (160, .getfield 149), (163, .ireturn), (164, .aload_n 0), (165, .getfield 158), (168, .ifCond .le 8), (171, .aload_n 0), (172, .getfield 158), (175, .ireturn), (176, .aload_n 0), (177, .invokevirtual 188), (180, .iconst 0), (181, .ireturn)]
def jm_c161 : List (Nat × Instr) := [(0, .aload_n 0), (1, .iconst 0), (2, .putfield 124), (5, .iconst 0), (6, .istore_n 1), (7, .aload_n 0), (8, .getfield 124), (11, .sipush 400), (14, .if_icmp .gt 272), (17, .aload_n 0), (18, .iload_n 1), (19, .invokevirtual 127), (22, .istore_n 2), (23, .iload_n 1), (24, .aload_n 0), (25, .getfield 115), (28, .if_icmp .lt 15), (31, .aload_n 0), (32, .iconst 0), (33, .aload_n 0), (34, .getfield 115), (37, .iconst 0), (38, .lconst 0), (39, .invokevirtual 131), (42, .return_), (43, .iload_n 2), (44, .bipush 9), (46, .if_icmp .eq 21), (49, .iload_n 2), (50, .bipush 10), (52, .if_icmp .eq 15), (55, .iload_n 2), (56, .bipush 13), (58, .if_icmp .eq 9), (61, .iload_n 2), (62, .bipush 32), (64, .if_icmp .ne 9), (67, .iinc 1 1), (70, .goto 213), (73, .iload_n 2), (74, .invokestatic 135), (77, .ifCond .eq 118), (80, .iconst 0), (81, .istore_n 3), (82, .lconst 0), (83, .lstore 4), (85, .aload_n 0), (86, .iload_n 1), (87, .iload_n 3), (88, .iadd), (89, .invokevirtual 127), (92, .invokestatic 135), (95, .ifCond .eq 29), (98, .iload_n 3), (99, .bipush 8), (101, .if_icmp .ge 17), (104, .lload 4), (106, .aload_n 0), (107, .iload_n 1), (108, .iload_n 3), (109, .iadd), (110, .invokevirtual 127), (113, .invokestatic 120), (116, .lstore 4), (118, .iinc 3 1), (121, .goto (-36)), (124, .iload_n 3), (125, .bipush 8), (127, .if_icmp .le 7), (130, .iconst 3), (131, .goto 4), (134, .iconst 1), (135, .istore 6), (137, .iload_n 3), (138, .bipush 8), (140, .if_icmp .gt 38), (143, .iconst 0), (144, .istore 7), (146, .iload 7), (148, .iconst 4), (149, .if_icmp .ge 29), (152, .aload_n 0), (153, .getfield 34), (156, .iload 7), (158, .laload), (159, .lload 4), (161, .lcmp), (162, .ifCond .ne 10), (165, .bipush 20), (167, .iload 7), (169, .iadd), (170, .istore 6), (172, .iinc 7 1), (175, .goto (-29)), (178, .aload_n 0), (179, .iload 6), (181, .iload_n 1), (182, .iconst 0), (183, .lload 4), (185, .invokevirtual 131), (188, .iload_n 1), (189, .iload_n 3), (190, .iadd), (191, .istore_n 1), (192, .goto 91), (195, .iload_n 2), (196, .invokestatic 139), (199, .ifCond .eq 75), (202, .iconst 0), (203, .istore_n 3), (204, .iconst 0), (205, .istore 4), (207, .aload_n 0), (208, .iload_n 1), (209, .iload_n 3), (210, .iadd), (211, .invokevirtual 127), (214, .invokestatic 139), (217, .ifCond .eq 32), (220, .iload_n 3), (221, .iconst 4), (222, .if_icmp .ge 21), (225, .bipush 10), (227, .iload 4), (229, .imul), (230, .aload_n 0), (231, .iload_n 1), (232, .iload_n 3), (233, .iadd), (234, .invokevirtual 127), (237, .iadd), (238, .bipush 48), (240, .isub), (241, .istore 4), (243, .iinc 3 1), (246, .goto (-39)), (249, .aload_n 0), (250, .iload_n 3), (251, .iconst 4), (252, .if_icmp .le 7), (255, .iconst 3), (256, .goto 4), (259, .iconst 2), (260, .iload_n 1), (261, .iload 4), (263, .lconst 0), (264, .invokevirtual 131), (267, .iload_n 1), (268, .iload_n 3), (269, .iadd), (270, .istore_n 1), (271, .goto 12), (274, .iload_n 1), (275, .aload_n 0), (276, .iload_n 1), (277, .iload_n 2), (278, .invokevirtual 142), (281, .iadd), (282, .istore_n 1), (283, .goto (-276)), (286, .return_)]
def jm_c162 : List (Nat × Instr) := [(0, .iload_n 1), (1, .aload_n 0), (2, .getfield 115), (5, .if_icmp .ge 16), (8, .aload_n 0), (9, .getfield 17), (12, .iload_n 1), (13, .baload), (14, .sipush 255), (17, .iand), (18, .goto 4), (21, .iconst 0), (22, .ireturn)]
def jm_c163 : List (Nat × Instr) := [(0, .aload_n 0), (1, .getfield 20), (4, .aload_n 0), (5, .getfield 124), (8, .iload_n 1), (9, .iastore), (10, .aload_n 0), (11, .getfield 24), (14, .aload_n 0), (15, .getfield 124), (18, .iload_n 2), (19, .iastore), (20, .aload_n 0), (21, .getfield 27), (24, .aload_n 0), (25, .getfield 124), (28, .iload_n 3), (29, .iastore), (30, .aload_n 0), (31, .getfield 30), (34, .aload_n 0), (35, .getfield 124), (38, .lload 4), (40, .lastore), (41, .aload_n 0), (42, .dup), (43, .getfield 124), (46, .iconst 1), (47, .iadd), (48, .putfield 124), (51, .return_)]
def jm_c164 : List (Nat × Instr) := [(0, .iload_n 0), (1, .bipush 97), (3, .if_icmp .lt 13), (6, .iload_n 0), (7, .bipush 122), (9, .if_icmp .gt 7), (12, .iconst 1), (13, .goto 4), (16, .iconst 0), (17, .ireturn)]
def jm_c165 : List (Nat × Instr) := [(0, .iload_n 0), (1, .bipush 48), (3, .if_icmp .lt 13), (6, .iload_n 0), (7, .bipush 57), (9, .if_icmp .gt 7), (12, .iconst 1), (13, .goto 4), (16, .iconst 0), (17, .ireturn)]
def jm_c166 : List (Nat × Instr) := [(0, .aload_n 0), (1, .iload_n 2), (2, .invokestatic 146), (5, .iload_n 1), (6, .iconst 0), (7, .lconst 0), (8, .invokevirtual 131), (11, .iconst 1), (12, .ireturn)]
def jm_c167 : List (Nat × Instr) := [(0, .iload_n 0), (1, .tableswitch 117 40 59 #[108, 111, 102, 97, 114, 99, 117, 105, 117, 117, 117, 117, 117, 117, 117, 117, 117, 117, 117, 95]), (96, .iconst 4), (97, .ireturn), (98, .iconst 5), (99, .ireturn), (100, .bipush 6), (102, .ireturn), (103, .bipush 7), (105, .ireturn), (106, .bipush 8), (108, .ireturn), (109, .bipush 9), (111, .ireturn), (112, .bipush 10), (114, .ireturn), (115, .bipush 11), (117, .ireturn), (118, .iconst 3), (119, .ireturn)]
def jm_c168 : List (Nat × Instr) := [(0, .aload_n 0), (1, .iload_n 1), (2, .invokevirtual 167), (5, .ifCond .eq 10), (8, .aload_n 0), (9, .invokevirtual 170), (12, .goto 8), (15, .aload_n 0), (16, .iconst 1), (17, .invokevirtual 164), (20, .return_)]
def jm_c169 : List (Nat × Instr) := [(0, .aload_n 0), (1, .getfield 149), (4, .ifCond .ne 20), (7, .aload_n 0), (8, .getfield 20), (11, .aload_n 0), (12, .getfield 152), (15, .iaload), (16, .iload_n 1), (17, .if_icmp .ne 7), (20, .iconst 1), (21, .goto 4), (24, .iconst 0), (25, .ireturn)]
def jm_c170 : List (Nat × Instr) := [(0, .aload_n 0), (1, .getfield 152), (4, .sipush 400), (7, .if_icmp .ne 11), (10, .aload_n 0), (11, .iconst 2), (12, .invokevirtual 164), (15, .goto 13), (18, .aload_n 0), (19, .dup), (20, .getfield 152), (23, .iconst 1), (24, .iadd), (25, .putfield 152), (28, .return_)]
def jm_c171 : List (Nat × Instr) := [(0, .aload_n 0), (1, .getfield 149), (4, .ifCond .le 4), (7, .return_), (8, .aload_n 0), (9, .iload_n 1), (10, .putfield 149), (13, .aload_n 0), (14, .aload_n 0), (15, .getfield 24), (18, .aload_n 0), (19, .getfield 152), (22, .iaload), (23, .putfield 155), (26, .return_)]
def jm_c172 : List (Nat × Instr) := [(0, .aload_n 0), (1, .bipush 21), (3, .invokevirtual 167), (6, .ifCond .ne 9), (9, .aload_n 0), (10, .iconst 1), (11, .invokevirtual 164), (14, .return_), (15, .aload_n 0), (16, .getfield 176), (19, .bipush 8), (21, .if_icmp .ne 9), (24, .aload_n 0), (25, .iconst 2), (26, .invokevirtual 164), (29, .return_), (30, .aload_n 0), (31, .dup), (32, .getfield 176), (35, .iconst 1), (36, .iadd), (37, .putfield 176), (40, .aload_n 0), (41, .invokevirtual 170), (44, .aload_n 0), (45, .iconst 1), (46, .invokevirtual 179), (49, .aload_n 0), (50, .invokevirtual 209), (53, .aload_n 0), (54, .iconst 4), (55, .invokevirtual 179), (58, .return_)]
def jm_c173 : List (Nat × Instr) := [(0, .iconst 1), (1, .istore_n 1), (2, .iconst 1), (3, .istore_n 2), (4, .aload_n 0), (5, .iconst 0), (6, .putfield 212), (9, .aload_n 0), (10, .getfield 149), (13, .ifCond .ne 295), (16, .iload_n 1), (17, .ifCond .eq 25), (20, .iload_n 2), (21, .ifCond .eq 21), (24, .aload_n 0), (25, .bipush 6), (27, .invokevirtual 167), (30, .ifCond .eq 12), (33, .aload_n 0), (34, .invokevirtual 170), (37, .iconst 0), (38, .istore_n 2), (39, .goto (-30)), (42, .iload_n 1), (43, .ifCond .eq 22), (46, .aload_n 0), (47, .bipush 9), (49, .invokevirtual 167), (52, .ifCond .eq 13), (55, .aload_n 0), (56, .iconst 0), (57, .invokevirtual 215), (60, .iconst 1), (61, .istore_n 2), (62, .goto (-53)), (65, .iload_n 1), (66, .ifCond .eq 62), (69, .aload_n 0), (70, .bipush 22), (72, .invokevirtual 167), (75, .ifCond .ne 12), (78, .aload_n 0), (79, .bipush 23), (81, .invokevirtual 167), (84, .ifCond .eq 44), (87, .aload_n 0), (88, .getfield 20), (91, .aload_n 0), (92, .getfield 152), (95, .iaload), (96, .istore_n 3), (97, .aload_n 0), (98, .invokevirtual 170), (101, .aload_n 0), (102, .bipush 9), (104, .invokevirtual 167), (107, .ifCond .eq 11), (110, .aload_n 0), (111, .iload_n 3), (112, .invokevirtual 215), (115, .goto 8), (118, .aload_n 0), (119, .iconst 1), (120, .invokevirtual 164), (123, .iconst 1), (124, .istore_n 2), (125, .goto (-116)), (128, .iload_n 1), (129, .ifCond .eq 36), (132, .aload_n 0), (133, .iconst 2), (134, .invokevirtual 167), (137, .ifCond .ne 11), (140, .aload_n 0), (141, .iconst 1), (142, .invokevirtual 167), (145, .ifCond .eq 10), (148, .aload_n 0), (149, .invokevirtual 170), (152, .goto 8), (155, .aload_n 0), (156, .iconst 1), (157, .invokevirtual 164), (160, .iconst 0), (161, .istore_n 1), (162, .goto (-153)), (165, .aload_n 0), (166, .iconst 5), (167, .invokevirtual 167), (170, .ifCond .ne 30), (173, .aload_n 0), (174, .bipush 6), (176, .invokevirtual 167), (179, .ifCond .ne 21), (182, .aload_n 0), (183, .bipush 7), (185, .invokevirtual 167), (188, .ifCond .ne 12), (191, .aload_n 0), (192, .bipush 8), (194, .invokevirtual 167), (197, .ifCond .eq 14), (200, .aload_n 0), (201, .invokevirtual 170), (204, .iconst 1), (205, .istore_n 1), (206, .iconst 0), (207, .istore_n 2), (208, .goto (-199)), (211, .aload_n 0), (212, .getfield 212), (215, .ifCond .ne 4), (218, .return_), (219, .aload_n 0), (220, .getfield 67), (223, .aload_n 0), (224, .getfield 212), (227, .iconst 1), (228, .isub), (229, .iaload), (230, .bipush 23), (232, .if_icmp .ne 57), (235, .aload_n 0), (236, .bipush 11), (238, .invokevirtual 167), (241, .ifCond .ne 20), (244, .aload_n 0), (245, .getfield 70), (248, .aload_n 0), (249, .getfield 212), (252, .iconst 1), (253, .isub), (254, .iaload), (255, .iconst 2), (256, .irem), (257, .iconst 1), (258, .if_icmp .ne 31), (261, .aload_n 0), (262, .bipush 11), (264, .invokevirtual 179), (267, .aload_n 0), (268, .getfield 70), (271, .aload_n 0), (272, .getfield 212), (275, .iconst 1), (276, .isub), (277, .dup2), (278, .iaload), (279, .iconst 1), (280, .iadd), (281, .iastore), (282, .iconst 1), (283, .istore_n 1), (284, .iconst 1), (285, .istore_n 2), (286, .goto (-277)), (289, .aload_n 0), (290, .bipush 10), (292, .invokevirtual 179), (295, .aload_n 0), (296, .dup), (297, .getfield 212), (300, .iconst 1), (301, .isub), (302, .putfield 212), (305, .goto (-296)), (308, .return_)]
def jm_c174 : List (Nat × Instr) := [(0, .aload_n 0), (1, .getfield 212), (4, .bipush 8), (6, .if_icmp .ne 9), (9, .aload_n 0), (10, .iconst 2), (11, .invokevirtual 164), (14, .return_), (15, .aload_n 0), (16, .getfield 67), (19, .aload_n 0), (20, .getfield 212), (23, .iload_n 1), (24, .iastore), (25, .aload_n 0), (26, .getfield 70), (29, .aload_n 0), (30, .getfield 212), (33, .iconst 1), (34, .iastore), (35, .aload_n 0), (36, .dup), (37, .getfield 212), (40, .iconst 1), (41, .iadd), (42, .putfield 212), (45, .aload_n 0), (46, .invokevirtual 170), (49, .return_)]
def jm_c175 : List (Nat × Instr) := [(0, .aload_n 0), (1, .iconst 0), (2, .putfield 191), (5, .aload_n 0), (6, .iconst 0), (7, .putfield 197), (10, .aload_n 0), (11, .getfield 27), (14, .iconst 1), (15, .iaload), (16, .iconst 3), (17, .bipush 12), (19, .invokestatic 218), (22, .ifCond .ne 9), (25, .aload_n 0), (26, .iconst 5), (27, .iconst 1), (28, .invokevirtual 222), (31, .aload_n 0), (32, .getfield 27), (35, .iconst 2), (36, .iaload), (37, .iconst 0), (38, .iconst 2), (39, .invokestatic 218), (42, .ifCond .ne 9), (45, .aload_n 0), (46, .iconst 5), (47, .iconst 2), (48, .invokevirtual 222), (51, .iconst 0), (52, .istore_n 1), (53, .iload_n 1), (54, .aload_n 0), (55, .getfield 124), (58, .if_icmp .ge 25), (61, .aload_n 0), (62, .getfield 20), (65, .iload_n 1), (66, .iaload), (67, .bipush 21), (69, .if_icmp .ne 8), (72, .aload_n 0), (73, .iload_n 1), (74, .invokevirtual 226), (77, .iinc 1 1), (80, .goto (-27)), (83, .return_)]
def jm_c176 : List (Nat × Instr) := [(0, .iload_n 0), (1, .iload_n 1), (2, .if_icmp .lt 12), (5, .iload_n 0), (6, .iload_n 2), (7, .if_icmp .gt 7), (10, .iconst 1), (11, .goto 4), (14, .iconst 0), (15, .ireturn)]
def jm_c177 : List (Nat × Instr) := [(0, .aload_n 0), (1, .getfield 24), (4, .iload_n 2), (5, .iaload), (6, .istore_n 3), (7, .aload_n 0), (8, .getfield 149), (11, .ifCond .gt 34), (14, .aload_n 0), (15, .getfield 158), (18, .ifCond .eq 28), (21, .iload_n 3), (22, .aload_n 0), (23, .getfield 161), (26, .if_icmp .gt 19), (29, .iload_n 3), (30, .aload_n 0), (31, .getfield 161), (34, .if_icmp .ne 12), (37, .iload_n 1), (38, .aload_n 0), (39, .getfield 158), (42, .if_icmp .lt 4), (45, .return_), (46, .aload_n 0), (47, .iload_n 1), (48, .putfield 158), (51, .aload_n 0), (52, .iload_n 3), (53, .putfield 161), (56, .return_)]
def jm_c178 : List (Nat × Instr) := [(0, .aload_n 0), (1, .aload_n 0), (2, .getfield 30), (5, .iload_n 1), (6, .iconst 1), (7, .iadd), (8, .laload), (9, .invokevirtual 238), (12, .ifCond .lt 11), (15, .aload_n 0), (16, .iconst 3), (17, .iload_n 1), (18, .iconst 1), (19, .iadd), (20, .invokevirtual 222), (23, .aload_n 0), (24, .getfield 64), (27, .aload_n 0), (28, .getfield 197), (31, .aload_n 0), (32, .getfield 191), (35, .iastore), (36, .aload_n 0), (37, .iconst 0), (38, .putfield 229), (41, .iload_n 1), (42, .iconst 2), (43, .iadd), (44, .istore_n 2), (45, .aload_n 0), (46, .getfield 20), (49, .iload_n 2), (50, .iaload), (51, .iconst 4), (52, .if_icmp .eq 26), (55, .aload_n 0), (56, .iload_n 2), (57, .iload_n 2), (58, .iload_n 1), (59, .iconst 2), (60, .iadd), (61, .if_icmp .ne 7), (64, .iconst 1), (65, .goto 4), (68, .iconst 0), (69, .invokevirtual 242), (72, .iinc 2 1), (75, .goto (-30)), (78, .aload_n 0), (79, .iconst 1), (80, .invokevirtual 246), (83, .aload_n 0), (84, .getfield 52), (87, .aload_n 0), (88, .getfield 197), (91, .aload_n 0), (92, .getfield 30), (95, .iload_n 1), (96, .iconst 1), (97, .iadd), (98, .laload), (99, .lastore), (100, .aload_n 0), (101, .dup), (102, .getfield 197), (105, .iconst 1), (106, .iadd), (107, .putfield 197), (110, .aload_n 0), (111, .getfield 64), (114, .aload_n 0), (115, .getfield 197), (118, .aload_n 0), (119, .getfield 191), (122, .iastore), (123, .return_)]
def jm_c179 : List (Nat × Instr) := [(0, .iconst 0), (1, .istore_n 3), (2, .iload_n 3), (3, .aload_n 0), (4, .getfield 197), (7, .if_icmp .ge 22), (10, .aload_n 0), (11, .getfield 52), (14, .iload_n 3), (15, .laload), (16, .lload_n 1), (17, .lcmp), (18, .ifCond .ne 5), (21, .iload_n 3), (22, .ireturn), (23, .iinc 3 1), (26, .goto (-24)), (29, .iconst (-1)), (30, .ireturn)]
def jm_c180 : List (Nat × Instr) := [(0, .aload_n 0), (1, .getfield 20), (4, .iload_n 1), (5, .iaload), (6, .tableswitch 324 1 11 #[72, 58, 324, 324, 282, 221, 295, 295, 102, 169, 146]), (64, .aload_n 0), (65, .iconst 0), (66, .aload_n 0), (67, .getfield 27), (70, .iload_n 1), (71, .iaload), (72, .invokevirtual 235), (75, .goto 255), (78, .aload_n 0), (79, .aload_n 0), (80, .getfield 30), (83, .iload_n 1), (84, .laload), (85, .invokevirtual 238), (88, .istore_n 3), (89, .iload_n 3), (90, .ifCond .ge 9), (93, .aload_n 0), (94, .iconst 4), (95, .iload_n 1), (96, .invokevirtual 222), (99, .aload_n 0), (100, .iconst 1), (101, .iload_n 3), (102, .invokevirtual 235), (105, .goto 225), (108, .aload_n 0), (109, .aload_n 0), (110, .getfield 20), (113, .iload_n 1), (114, .iconst 1), (115, .isub), (116, .iaload), (117, .bipush 22), (119, .if_icmp .ne 8), (122, .bipush 7), (124, .goto 22), (127, .aload_n 0), (128, .getfield 20), (131, .iload_n 1), (132, .iconst 1), (133, .isub), (134, .iaload), (135, .bipush 23), (137, .if_icmp .ne 8), (140, .bipush 8), (142, .goto 4), (145, .iconst (-1)), (146, .invokevirtual 249), (149, .goto 181), (152, .aload_n 0), (153, .iconst 1), (154, .invokevirtual 246), (157, .aload_n 0), (158, .getfield 76), (161, .aload_n 0), (162, .getfield 229), (165, .iconst 1), (166, .isub), (167, .dup2), (168, .iaload), (169, .iconst 1), (170, .iadd), (171, .iastore), (172, .goto 158), (175, .aload_n 0), (176, .iconst 1), (177, .invokevirtual 246), (180, .aload_n 0), (181, .dup), (182, .getfield 229), (185, .iconst 1), (186, .isub), (187, .putfield 229), (190, .aload_n 0), (191, .getfield 73), (194, .aload_n 0), (195, .getfield 229), (198, .iaload), (199, .ifCond .lt 131), (202, .aload_n 0), (203, .aload_n 0), (204, .getfield 73), (207, .aload_n 0), (208, .getfield 229), (211, .iaload), (212, .aload_n 0), (213, .getfield 76), (216, .aload_n 0), (217, .getfield 229), (220, .iaload), (221, .invokevirtual 235), (224, .goto 106), (227, .iload_n 2), (228, .ifCond .ne 29), (231, .aload_n 0), (232, .getfield 20), (235, .iload_n 1), (236, .iconst 1), (237, .isub), (238, .iaload), (239, .bipush 9), (241, .if_icmp .eq 16), (244, .aload_n 0), (245, .getfield 20), (248, .iload_n 1), (249, .iconst 1), (250, .isub), (251, .iaload), (252, .bipush 11), (254, .if_icmp .ne 7), (257, .iconst 1), (258, .goto 4), (261, .iconst 0), (262, .istore_n 3), (263, .iload_n 3), (264, .ifCond .ne 8), (267, .aload_n 0), (268, .iconst 1), (269, .invokevirtual 246), (272, .aload_n 0), (273, .iload_n 3), (274, .ifCond .eq 7), (277, .iconst 2), (278, .goto 4), (281, .iconst 4), (282, .invokevirtual 249), (285, .goto 45), (288, .aload_n 0), (289, .iconst 1), (290, .invokevirtual 246), (293, .aload_n 0), (294, .iconst 3), (295, .invokevirtual 249), (298, .goto 32), (301, .aload_n 0), (302, .iconst 2), (303, .invokevirtual 246), (306, .aload_n 0), (307, .aload_n 0), (308, .getfield 20), (311, .iload_n 1), (312, .iaload), (313, .bipush 7), (315, .if_icmp .ne 7), (318, .iconst 5), (319, .goto 5), (322, .bipush 6), (324, .invokevirtual 249), (327, .goto 3), (330, .return_)]
def jm_c181 : List (Nat × Instr) := [(0, .aload_n 0), (1, .getfield 58), (4, .aload_n 0), (5, .getfield 191), (8, .iload_n 1), (9, .iastore), (10, .aload_n 0), (11, .getfield 61), (14, .aload_n 0), (15, .getfield 191), (18, .iload_n 2), (19, .iastore), (20, .aload_n 0), (21, .dup), (22, .getfield 191), (25, .iconst 1), (26, .iadd), (27, .putfield 191), (30, .return_)]
def jm_c182 : List (Nat × Instr) := [(0, .aload_n 0), (1, .getfield 73), (4, .aload_n 0), (5, .getfield 229), (8, .iload_n 1), (9, .iastore), (10, .aload_n 0), (11, .getfield 76), (14, .aload_n 0), (15, .getfield 229), (18, .iconst 1), (19, .iastore), (20, .aload_n 0), (21, .dup), (22, .getfield 229), (25, .iconst 1), (26, .iadd), (27, .putfield 229), (30, .return_)]
def jm_c183 : List (Nat × Instr) := [(0, .aload_n 0), (1, .getfield 229), (4, .ifCond .le 48), (7, .aload_n 0), (8, .getfield 73), (11, .aload_n 0), (12, .getfield 229), (15, .iconst 1), (16, .isub), (17, .iaload), (18, .invokestatic 232), (21, .iload_n 1), (22, .if_icmp .lt 30), (25, .aload_n 0), (26, .dup), (27, .getfield 229), (30, .iconst 1), (31, .isub), (32, .putfield 229), (35, .aload_n 0), (36, .aload_n 0), (37, .getfield 73), (40, .aload_n 0), (41, .getfield 229), (44, .iaload), (45, .iconst 0), (46, .invokevirtual 235), (49, .goto (-49)), (52, .return_)]
def jm_c184 : List (Nat × Instr) := [(0, .iload_n 0), (1, .iconst 5), (2, .if_icmp .eq 9), (5, .iload_n 0), (6, .bipush 6), (8, .if_icmp .ne 7), (11, .iconst 2), (12, .goto 23), (15, .iload_n 0), (16, .iconst 3), (17, .if_icmp .eq 13), (20, .iload_n 0), (21, .iconst 4), (22, .if_icmp .eq 8), (25, .iload_n 0), (26, .iconst 2), (27, .if_icmp .ne 7), (30, .iconst 1), (31, .goto 4), (34, .iconst 0), (35, .ireturn)]
def jm_c185 : List (Nat × Instr) := [(0, .iconst 0), (1, .istore_n 1), (2, .iload_n 1), (3, .aload_n 0), (4, .getfield 191), (7, .if_icmp .ge 33), (10, .aload_n 0), (11, .getfield 43), (14, .iload_n 1), (15, .aload_n 0), (16, .getfield 58), (19, .iload_n 1), (20, .iaload), (21, .iastore), (22, .aload_n 0), (23, .getfield 46), (26, .iload_n 1), (27, .aload_n 0), (28, .getfield 61), (31, .iload_n 1), (32, .iaload), (33, .iastore), (34, .iinc 1 1), (37, .goto (-35)), (40, .aload_n 0), (41, .aload_n 0), (42, .getfield 191), (45, .putfield 194), (48, .aload_n 0), (49, .aload_n 0), (50, .getfield 197), (53, .putfield 200), (56, .iconst 0), (57, .istore_n 1), (58, .iload_n 1), (59, .aload_n 0), (60, .getfield 200), (63, .if_icmp .gt 21), (66, .aload_n 0), (67, .getfield 49), (70, .iload_n 1), (71, .aload_n 0), (72, .getfield 64), (75, .iload_n 1), (76, .iaload), (77, .iastore), (78, .iinc 1 1), (81, .goto (-23)), (84, .iconst 0), (85, .istore_n 1), (86, .iload_n 1), (87, .bipush 20), (89, .if_icmp .ge 16), (92, .aload_n 0), (93, .getfield 40), (96, .iload_n 1), (97, .iconst 0), (98, .iastore), (99, .iinc 1 1), (102, .goto (-16)), (105, .aload_n 0), (106, .getfield 40), (109, .iconst 0), (110, .aload_n 0), (111, .getfield 27), (114, .iconst 1), (115, .iaload), (116, .iastore), (117, .aload_n 0), (118, .getfield 40), (121, .iconst 1), (122, .aload_n 0), (123, .getfield 27), (126, .iconst 2), (127, .iaload), (128, .iastore), (129, .aload_n 0), (130, .invokevirtual 203), (133, .aload_n 0), (134, .iconst 0), (135, .putfield 206), (138, .iconst 0), (139, .istore_n 1), (140, .iload_n 1), (141, .iconst 3), (142, .if_icmp .ge 16), (145, .aload_n 0), (146, .getfield 88), (149, .iload_n 1), (150, .iconst 0), (151, .bastore), (152, .iinc 1 1), (155, .goto (-15)), (158, .return_)]
def jm_c186 : List (Nat × Instr) := [(0, .iconst 0), (1, .istore_n 1), (2, .iload_n 1), (3, .aload_n 0), (4, .getfield 200), (7, .if_icmp .ge 32), (10, .aload_n 0), (11, .getfield 55), (14, .iload_n 1), (15, .aload_n 0), (16, .iload_n 1), (17, .aload_n 0), (18, .getfield 40), (21, .iconst 0), (22, .iaload), (23, .aload_n 0), (24, .getfield 40), (27, .iconst 1), (28, .iaload), (29, .invokevirtual 252), (32, .iastore), (33, .iinc 1 1), (36, .goto (-34)), (39, .return_)]
def jm_c187 : List (Nat × Instr) := [(0, .iconst 0), (1, .istore 4), (3, .aload_n 0), (4, .getfield 49), (7, .iload_n 1), (8, .iaload), (9, .istore 5), (11, .iload 5), (13, .aload_n 0), (14, .getfield 49), (17, .iload_n 1), (18, .iconst 1), (19, .iadd), (20, .iaload), (21, .if_icmp .ge 243), (24, .aload_n 0), (25, .getfield 46), (28, .iload 5), (30, .iaload), (31, .istore 6), (33, .aload_n 0), (34, .getfield 43), (37, .iload 5), (39, .iaload), (40, .tableswitch 175 0 8 #[52, 73, 93, 175, 175, 175, 175, 118, 145]), (92, .aload_n 0), (93, .getfield 79), (96, .iload 4), (98, .aload_n 0), (99, .iload_n 2), (100, .iload_n 3), (101, .iload 6), (103, .invokevirtual 256), (106, .iastore), (107, .iinc 4 1), (110, .goto 148), (113, .aload_n 0), (114, .getfield 79), (117, .iload 4), (119, .aload_n 0), (120, .getfield 55), (123, .iload 6), (125, .iaload), (126, .iastore), (127, .iinc 4 1), (130, .goto 128), (133, .aload_n 0), (134, .getfield 79), (137, .iload 4), (139, .iconst 1), (140, .isub), (141, .iload_n 2), (142, .aload_n 0), (143, .getfield 79), (146, .iload 4), (148, .iconst 1), (149, .isub), (150, .iaload), (151, .invokestatic 259), (154, .iastore), (155, .goto 103), (158, .aload_n 0), (159, .getfield 79), (162, .iload 4), (164, .iconst 1), (165, .isub), (166, .aload_n 0), (167, .iload_n 2), (168, .iload_n 3), (169, .aload_n 0), (170, .getfield 79), (173, .iload 4), (175, .iconst 1), (176, .isub), (177, .iaload), (178, .invokevirtual 262), (181, .iastore), (182, .goto 76), (185, .iload 4), (187, .iload 6), (189, .isub), (190, .istore 4), (192, .aload_n 0), (193, .getfield 79), (196, .iload 4), (198, .aload_n 0), (199, .iload_n 2), (200, .iload_n 3), (201, .iload 4), (203, .iload 6), (205, .invokevirtual 265), (208, .iastore), (209, .iinc 4 1), (212, .goto 46), (215, .iinc 4 (-1)), (218, .aload_n 0), (219, .getfield 79), (222, .iload 4), (224, .iconst 1), (225, .isub), (226, .aload_n 0), (227, .iload_n 2), (228, .iload_n 3), (229, .aload_n 0), (230, .getfield 79), (233, .iload 4), (235, .iconst 1), (236, .isub), (237, .iaload), (238, .aload_n 0), (239, .getfield 79), (242, .iload 4), (244, .iaload), (245, .aload_n 0), (246, .getfield 43), (249, .iload 5), (251, .iaload), (252, .iconst 3), (253, .isub), (254, .invokevirtual 269), (257, .iastore), (258, .iinc 5 1), (261, .goto (-250)), (264, .aload_n 0), (265, .getfield 79), (268, .iconst 0), (269, .iaload), (270, .ireturn)]
def jm_c188 : List (Nat × Instr) := [(0, .aload_n 0), (1, .iload_n 1), (2, .iload_n 2), (3, .iload_n 3), (4, .i2l), (5, .iconst 0), (6, .lconst 1), (7, .iconst 0), (8, .iconst 1), (9, .invokevirtual 389), (12, .ireturn)]
def jm_c189 : List (Nat × Instr) := [(0, .aload_n 0), (1, .iconst 0), (2, .putfield 380), (5, .lload_n 3), (6, .lconst 0), (7, .lcmp), (8, .ifCond .ne 5), (11, .iconst 0), (12, .ireturn), (13, .aload_n 0), (14, .iconst 1), (15, .putfield 358), (18, .aload_n 0), (19, .lload_n 3), (20, .putfield 361), (23, .aload_n 0), (24, .iload 5), (26, .putfield 365), (29, .aload_n 0), (30, .lload 6), (32, .putfield 368), (35, .aload_n 0), (36, .iload 8), (38, .putfield 371), (41, .aload_n 0), (42, .iload_n 1), (43, .aload_n 0), (44, .iload_n 1), (45, .iload_n 2), (46, .invokevirtual 383), (49, .iload 9), (51, .invokevirtual 386), (54, .ireturn)]
def jm_c190 : List (Nat × Instr) := [(0, .iconst 1), (1, .istore_n 3), (2, .iload_n 1), (3, .invokestatic 280), (6, .iconst 1), (7, .isub), (8, .istore 4), (10, .aload_n 0), (11, .iload_n 1), (12, .iload_n 2), (13, .iload_n 3), (14, .invokevirtual 377), (17, .istore 5), (19, .aload_n 0), (20, .iload_n 1), (21, .iload_n 2), (22, .iload 4), (24, .invokevirtual 377), (27, .istore 6), (29, .iload 5), (31, .ifCond .lt 8), (34, .iload 6), (36, .ifCond .le 29), (39, .aload_n 0), (40, .iload 5), (42, .ifCond .ge 7), (45, .iconst 1), (46, .goto 4), (49, .iconst (-1)), (50, .putfield 380), (53, .iload 5), (55, .ifCond .ge 7), (58, .iload_n 3), (59, .goto 5), (62, .iload 4), (64, .ireturn), (65, .iload 4), (67, .iload_n 3), (68, .isub), (69, .iconst 1), (70, .if_icmp .le 35), (73, .iload_n 3), (74, .iload 4), (76, .iadd), (77, .iconst 2), (78, .idiv), (79, .istore 7), (81, .aload_n 0), (82, .iload_n 1), (83, .iload_n 2), (84, .iload 7), (86, .invokevirtual 377), (89, .ifCond .lt 9), (92, .iload 7), (94, .istore_n 3), (95, .goto 7), (98, .iload 7), (100, .istore 4), (102, .goto (-37)), (105, .aload_n 0), (106, .iload_n 1), (107, .iload_n 2), (108, .iload 4), (110, .invokevirtual 377), (113, .ifCond .ne 6), (116, .iload 4), (118, .istore_n 3), (119, .aload_n 0), (120, .iconst 0), (121, .putfield 380), (124, .aload_n 0), (125, .iload_n 1), (126, .iload_n 2), (127, .iload_n 3), (128, .invokevirtual 377), (131, .ifCond .ne 5), (134, .iload_n 3), (135, .ireturn), (136, .aload_n 0), (137, .iload_n 1), (138, .iconst 1), (139, .iadd), (140, .iload_n 2), (141, .iconst 2), (142, .iload_n 3), (143, .imul), (144, .iconst 1), (145, .iadd), (146, .invokevirtual 377), (149, .istore 7), (151, .iload 7), (153, .ifCond .gt 15), (156, .iload 7), (158, .ifCond .ne 14), (161, .iload_n 3), (162, .iconst 2), (163, .irem), (164, .iconst 1), (165, .if_icmp .ne 7), (168, .iconst 1), (169, .goto 4), (172, .iconst 0), (173, .istore 8), (175, .aload_n 0), (176, .iload 8), (178, .ifCond .eq 7), (181, .iconst 1), (182, .goto 4), (185, .iconst (-1)), (186, .putfield 380), (189, .iload 8), (191, .ifCond .eq 9), (194, .iload_n 3), (195, .iconst 1), (196, .iadd), (197, .goto 4), (200, .iload_n 3), (201, .ireturn)]
def jm_c191 : List (Nat × Instr) := [(0, .iconst 1), (1, .iload_n 0), (2, .iconst 1), (3, .isub), (4, .ishl), (5, .ireturn)]
def jm_c192 : List (Nat × Instr) := [(0, .aload_n 0), (1, .iload_n 1), (2, .iload_n 2), (3, .iload_n 3), (4, .invokevirtual 345), (7, .aload_n 0), (8, .getfield 358), (11, .iconst 1), (12, .if_icmp .ne 34), (15, .aload_n 0), (16, .getfield 361), (19, .aload_n 0), (20, .getfield 365), (23, .aload_n 0), (24, .getfield 368), (27, .aload_n 0), (28, .getfield 328), (31, .i2l), (32, .lmul), (33, .aload_n 0), (34, .getfield 371), (37, .aload_n 0), (38, .getfield 331), (41, .iadd), (42, .invokestatic 374), (45, .ireturn), (46, .aload_n 0), (47, .getfield 358), (50, .iconst 2), (51, .if_icmp .ne 32), (54, .aload_n 0), (55, .getfield 361), (58, .aload_n 0), (59, .getfield 365), (62, .aload_n 0), (63, .getfield 328), (66, .i2l), (67, .aload_n 0), (68, .getfield 328), (71, .i2l), (72, .lmul), (73, .iconst 2), (74, .aload_n 0), (75, .getfield 331), (78, .imul), (79, .invokestatic 374), (82, .ireturn), (83, .aload_n 0), (84, .getfield 95), (87, .aload_n 0), (88, .getfield 328), (91, .i2l), (92, .aload_n 0), (93, .getfield 331), (96, .invokestatic 336), (99, .aload_n 0), (100, .getfield 92), (103, .aload_n 0), (104, .getfield 95), (107, .invokestatic 341), (110, .ireturn)]
def jm_c193 : List (Nat × Instr) := [(0, .iload_n 3), (1, .iload_n 1), (2, .invokestatic 280), (5, .if_icmp .le 11), (8, .iload_n 1), (9, .iload_n 3), (10, .invokestatic 259), (13, .goto 4), (16, .iload_n 3), (17, .istore 4), (19, .iload 4), (21, .iload_n 1), (22, .iconst 2), (23, .isub), (24, .invokestatic 310), (27, .istore 5), (29, .iload_n 1), (30, .iconst 2), (31, .isub), (32, .istore 6), (34, .iload 6), (36, .ifCond .lt 21), (39, .iload 4), (41, .iload 6), (43, .invokestatic 310), (46, .iload 5), (48, .if_icmp .ne 9), (51, .iinc 6 (-1)), (54, .goto (-20)), (57, .aload_n 0), (58, .iload_n 1), (59, .iconst 2), (60, .isub), (61, .iload 6), (63, .isub), (64, .putfield 313), (67, .aload_n 0), (68, .iload 5), (70, .ifCond .eq 12), (73, .aload_n 0), (74, .getfield 313), (77, .iconst 1), (78, .isub), (79, .goto 8), (82, .aload_n 0), (83, .getfield 313), (86, .ineg), (87, .putfield 316), (90, .iload 6), (92, .ifCond .ge 7), (95, .iconst 0), (96, .goto 5), (99, .iload 6), (101, .istore 7), (103, .iload 4), (105, .iconst 1), (106, .iload 7), (108, .ishl), (109, .iconst 1), (110, .isub), (111, .iand), (112, .istore 8), (114, .aload_n 0), (115, .iload 7), (117, .iload_n 2), (118, .if_icmp .le 10), (121, .iload 7), (123, .iload_n 2), (124, .isub), (125, .goto 4), (128, .iconst 0), (129, .putfield 319), (132, .aload_n 0), (133, .iload 7), (135, .iload_n 2), (136, .if_icmp .lt 13), (139, .iload 8), (141, .iload 7), (143, .iload_n 2), (144, .isub), (145, .ishr), (146, .goto 10), (149, .iload 8), (151, .iload_n 2), (152, .iload 7), (154, .isub), (155, .ishl), (156, .putfield 322), (159, .aload_n 0), (160, .iload 8), (162, .iconst 1), (163, .aload_n 0), (164, .getfield 319), (167, .ishl), (168, .iconst 1), (169, .isub), (170, .iand), (171, .putfield 325), (174, .aload_n 0), (175, .iconst 1), (176, .aload_n 0), (177, .getfield 319), (180, .ishl), (181, .aload_n 0), (182, .getfield 325), (185, .iadd), (186, .putfield 328), (189, .aload_n 0), (190, .aload_n 0), (191, .getfield 316), (194, .iconst 1), (195, .iload_n 2), (196, .ishl), (197, .imul), (198, .aload_n 0), (199, .getfield 322), (202, .iadd), (203, .aload_n 0), (204, .getfield 319), (207, .isub), (208, .putfield 331), (211, .return_)]
def jm_c194 : List (Nat × Instr) := [(0, .iconst 1), (1, .iload_n 0), (2, .ishl), (3, .iload_n 1), (4, .isub), (5, .iconst 1), (6, .iload_n 0), (7, .ishl), (8, .iconst 1), (9, .isub), (10, .iand), (11, .ireturn)]
def jm_c195 : List (Nat × Instr) := [(0, .iload_n 0), (1, .iload_n 1), (2, .ishr), (3, .iconst 1), (4, .iand), (5, .iconst 1), (6, .if_icmp .ne 7), (9, .iconst 1), (10, .goto 4), (13, .iconst 0), (14, .ireturn)]
def jm_c196 : List (Nat × Instr) := [(0, .lload_n 0), (1, .invokestatic 355), (4, .iload_n 2), (5, .iadd), (6, .istore 6), (8, .lload_n 3), (9, .invokestatic 355), (12, .iload 5), (14, .iadd), (15, .istore 7), (17, .iload 6), (19, .iload 7), (21, .if_icmp .eq 16), (24, .iload 6), (26, .iload 7), (28, .if_icmp .ge 7), (31, .iconst (-1)), (32, .goto 4), (35, .iconst 1), (36, .ireturn), (37, .iload_n 2), (38, .iload 5), (40, .if_icmp .le 12), (43, .lload_n 0), (44, .iload_n 2), (45, .iload 5), (47, .isub), (48, .lshl), (49, .goto 4), (52, .lload_n 0), (53, .lstore 8), (55, .iload 5), (57, .iload_n 2), (58, .if_icmp .le 12), (61, .lload_n 3), (62, .iload 5), (64, .iload_n 2), (65, .isub), (66, .lshl), (67, .goto 4), (70, .lload_n 3), (71, .lstore 10), (73, .lload 8), (75, .lload 10), (77, .lcmp), (78, .ifCond .ge 7), (81, .iconst (-1)), (82, .goto 16), (85, .lload 8), (87, .lload 10), (89, .lcmp), (90, .ifCond .le 7), (93, .iconst 1), (94, .goto 4), (97, .iconst 0), (98, .ireturn)]
def jm_c197 : List (Nat × Instr) := [(0, .iconst 0), (1, .istore_n 2), (2, .lload_n 0), (3, .iload_n 2), (4, .lshr), (5, .lconst 0), (6, .lcmp), (7, .ifCond .le 9), (10, .iinc 2 1), (13, .goto (-11)), (16, .iload_n 2), (17, .ireturn)]
def jm_c198 : List (Nat × Instr) := [(0, .iconst 0), (1, .istore 4), (3, .iload 4), (5, .bipush 16), (7, .if_icmp .ge 14), (10, .aload_n 0), (11, .iload 4), (13, .iconst 0), (14, .iastore), (15, .iinc 4 1), (18, .goto (-15)), (21, .iload_n 3), (22, .bipush 112), (24, .iadd), (25, .bipush 16), (27, .idiv), (28, .istore 4), (30, .lload_n 1), (31, .iload_n 3), (32, .bipush 112), (34, .iadd), (35, .bipush 16), (37, .irem), (38, .lshl), (39, .lstore 5), (41, .lload 5), (43, .lconst 0), (44, .lcmp), (45, .ifCond .le 27), (48, .aload_n 0), (49, .iload 4), (51, .lload 5), (53, .ldc2_w 334), (56, .land), (57, .l2i), (58, .iastore), (59, .iinc 4 1), (62, .lload 5), (64, .bipush 16), (66, .lshr), (67, .lstore 5), (69, .goto (-28)), (72, .return_)]
def jm_c199 : List (Nat × Instr) := [(0, .bipush 15), (2, .istore_n 2), (3, .iload_n 2), (4, .ifCond .lt 18), (7, .aload_n 0), (8, .iload_n 2), (9, .iaload), (10, .aload_n 1), (11, .iload_n 2), (12, .iaload), (13, .if_icmp .ne 9), (16, .iinc 2 (-1)), (19, .goto (-16)), (22, .iload_n 2), (23, .ifCond .ge 7), (26, .iconst 0), (27, .goto 17), (30, .aload_n 0), (31, .iload_n 2), (32, .iaload), (33, .aload_n 1), (34, .iload_n 2), (35, .iaload), (36, .if_icmp .ge 7), (39, .iconst (-1)), (40, .goto 4), (43, .iconst 1), (44, .ireturn)]
def jm_c200 : List (Nat × Instr) := [(0, .aload_n 0), (1, .dup), (2, .getfield 380), (5, .iload_n 3), (6, .imul), (7, .putfield 380), (10, .iload_n 3), (11, .ifCond .ge 11), (14, .iload_n 1), (15, .iload_n 2), (16, .invokestatic 259), (19, .goto 4), (22, .iload_n 2), (23, .ireturn)]
def jm_c201 : List (Nat × Instr) := [(0, .aload_n 0), (1, .iconst 0), (2, .putfield 380), (5, .iload_n 3), (6, .ifCond .ne 5), (9, .iconst 0), (10, .ireturn), (11, .iload_n 3), (12, .iload_n 1), (13, .invokestatic 280), (16, .if_icmp .lt 8), (19, .iload_n 1), (20, .invokestatic 280), (23, .ireturn), (24, .aload_n 0), (25, .iload_n 1), (26, .iload_n 2), (27, .iload_n 3), (28, .invokevirtual 345), (31, .aload_n 0), (32, .iconst 2), (33, .putfield 358), (36, .aload_n 0), (37, .aload_n 0), (38, .getfield 328), (41, .i2l), (42, .putfield 361), (45, .aload_n 0), (46, .aload_n 0), (47, .getfield 331), (50, .putfield 365), (53, .aload_n 0), (54, .iload_n 1), (55, .iload_n 2), (56, .invokevirtual 383), (59, .ireturn)]
def jm_c202 : List (Nat × Instr) := [(0, .aload_n 0), (1, .invokevirtual 273), (4, .iload_n 3), (5, .istore 5), (7, .iload 5), (9, .iload_n 3), (10, .iload 4), (12, .iadd), (13, .if_icmp .ge 67), (16, .iload_n 1), (17, .aload_n 0), (18, .getfield 79), (21, .iload 5), (23, .iaload), (24, .invokestatic 276), (27, .ifCond .ne 19), (30, .iload_n 1), (31, .aload_n 0), (32, .getfield 79), (35, .iload 5), (37, .iconst 1), (38, .iadd), (39, .iaload), (40, .invokestatic 276), (43, .ifCond .eq 8), (46, .iload_n 1), (47, .invokestatic 280), (50, .ireturn), (51, .aload_n 0), (52, .iload_n 1), (53, .iload_n 2), (54, .aload_n 0), (55, .getfield 79), (58, .iload 5), (60, .iaload), (61, .aload_n 0), (62, .getfield 79), (65, .iload 5), (67, .iconst 1), (68, .iadd), (69, .iaload), (70, .iconst 1), (71, .invokevirtual 283), (74, .iinc 5 2), (77, .goto (-70)), (80, .aload_n 0), (81, .iload_n 1), (82, .iload_n 2), (83, .invokevirtual 287), (86, .ireturn)]
def jm_c203 : List (Nat × Instr) := [(0, .aload_n 0), (1, .iconst 0), (2, .putfield 308), (5, .iconst 0), (6, .istore_n 1), (7, .iload_n 1), (8, .bipush 16), (10, .if_icmp .ge 16), (13, .aload_n 0), (14, .getfield 92), (17, .iload_n 1), (18, .iconst 0), (19, .iastore), (20, .iinc 1 1), (23, .goto (-16)), (26, .return_)]
def jm_c204 : List (Nat × Instr) := [(0, .iload_n 1), (1, .iload_n 0), (2, .invokestatic 280), (5, .if_icmp .ne 7), (8, .iconst 1), (9, .goto 4), (12, .iconst 0), (13, .ireturn)]
def jm_c205 : List (Nat × Instr) := [(0, .iload_n 3), (1, .ifCond .eq 8), (4, .iload 4), (6, .ifCond .ne 4), (9, .return_), (10, .aload_n 0), (11, .iload_n 1), (12, .iload_n 2), (13, .iload_n 3), (14, .invokevirtual 345), (17, .aload_n 0), (18, .getfield 328), (21, .i2l), (22, .lstore 6), (24, .aload_n 0), (25, .getfield 331), (28, .istore 8), (30, .aload_n 0), (31, .iload_n 1), (32, .iload_n 2), (33, .iload 4), (35, .invokevirtual 345), (38, .aload_n 0), (39, .lload 6), (41, .aload_n 0), (42, .getfield 328), (45, .i2l), (46, .lmul), (47, .iload 8), (49, .aload_n 0), (50, .getfield 331), (53, .iadd), (54, .iload 5), (56, .iload_n 1), (57, .iload_n 3), (58, .invokestatic 348), (61, .imul), (62, .iload_n 1), (63, .iload 4), (65, .invokestatic 348), (68, .imul), (69, .invokevirtual 351), (72, .return_)]
def jm_c206 : List (Nat × Instr) := [(0, .iload_n 1), (1, .ifCond .eq 11), (4, .iload_n 0), (5, .iload_n 1), (6, .invokestatic 276), (9, .ifCond .eq 7), (12, .iconst 0), (13, .goto 16), (16, .iload_n 1), (17, .iload_n 0), (18, .invokestatic 280), (21, .if_icmp .le 7), (24, .iconst (-1)), (25, .goto 4), (28, .iconst 1), (29, .ireturn)]
def jm_c207 : List (Nat × Instr) := [(0, .aload_n 0), (1, .getfield 95), (4, .lload_n 1), (5, .iload_n 3), (6, .invokestatic 336), (9, .aload_n 0), (10, .getfield 308), (13, .ifCond .eq 12), (16, .aload_n 0), (17, .getfield 308), (20, .iload 4), (22, .if_icmp .ne 69), (25, .iconst 0), (26, .istore 5), (28, .iconst 0), (29, .istore 6), (31, .iload 6), (33, .bipush 16), (35, .if_icmp .ge 49), (38, .aload_n 0), (39, .getfield 92), (42, .iload 6), (44, .iaload), (45, .aload_n 0), (46, .getfield 95), (49, .iload 6), (51, .iaload), (52, .iadd), (53, .iload 5), (55, .iadd), (56, .istore 7), (58, .aload_n 0), (59, .getfield 92), (62, .iload 6), (64, .iload 7), (66, .ldc_w 340), (69, .iand), (70, .iastore), (71, .iload 7), (73, .bipush 16), (75, .ishr), (76, .istore 5), (78, .iinc 6 1), (81, .goto (-50)), (84, .aload_n 0), (85, .iload 4), (87, .putfield 308), (90, .return_), (91, .aload_n 0), (92, .getfield 92), (95, .aload_n 0), (96, .getfield 95), (99, .invokestatic 341), (102, .istore 5), (104, .iconst 0), (105, .istore 6), (107, .iconst 0), (108, .istore 7), (110, .iload 7), (112, .bipush 16), (114, .if_icmp .ge 77), (117, .iload 5), (119, .ifCond .ge 21), (122, .aload_n 0), (123, .getfield 95), (126, .iload 7), (128, .iaload), (129, .aload_n 0), (130, .getfield 92), (133, .iload 7), (135, .iaload), (136, .isub), (137, .goto 18), (140, .aload_n 0), (141, .getfield 92), (144, .iload 7), (146, .iaload), (147, .aload_n 0), (148, .getfield 95), (151, .iload 7), (153, .iaload), (154, .isub), (155, .iload 6), (157, .isub), (158, .istore 8), (160, .iload 8), (162, .ifCond .ge 7), (165, .iconst 1), (166, .goto 4), (169, .iconst 0), (170, .istore 6), (172, .aload_n 0), (173, .getfield 92), (176, .iload 7), (178, .iload 8), (180, .ldc_w 340), (183, .iand), (184, .iastore), (185, .iinc 7 1), (188, .goto (-78)), (191, .aload_n 0), (192, .iload 5), (194, .ifCond .ne 7), (197, .iconst 0), (198, .goto 17), (201, .iload 5), (203, .ifCond .ge 8), (206, .iload 4), (208, .goto 7), (211, .aload_n 0), (212, .getfield 308), (215, .putfield 308), (218, .return_)]
def jm_c208 : List (Nat × Instr) := [(0, .aload_n 0), (1, .iconst 0), (2, .putfield 380), (5, .aload_n 0), (6, .getfield 308), (9, .ifCond .ne 5), (12, .iconst 0), (13, .ireturn), (14, .aload_n 0), (15, .iconst 0), (16, .putfield 358), (19, .aload_n 0), (20, .iload_n 1), (21, .aload_n 0), (22, .iload_n 1), (23, .iload_n 2), (24, .invokevirtual 383), (27, .aload_n 0), (28, .getfield 308), (31, .invokevirtual 386), (34, .ireturn)]
def jm_c209 : List (Nat × Instr) := [(0, .iload_n 1), (1, .iload_n 3), (2, .invokestatic 276), (5, .ifCond .ne 23), (8, .iload_n 1), (9, .iload 4), (11, .invokestatic 276), (14, .ifCond .ne 14), (17, .iload 5), (19, .iconst 3), (20, .if_icmp .ne 13), (23, .iload 4), (25, .ifCond .ne 8), (28, .iload_n 1), (29, .invokestatic 280), (32, .ireturn), (33, .iload 5), (35, .iconst 2), (36, .if_icmp .ge 40), (39, .aload_n 0), (40, .invokevirtual 273), (43, .aload_n 0), (44, .iload_n 1), (45, .iload_n 2), (46, .iload_n 3), (47, .iconst 1), (48, .invokevirtual 393), (51, .aload_n 0), (52, .iload_n 1), (53, .iload_n 2), (54, .iload 4), (56, .iload 5), (58, .ifCond .ne 7), (61, .iconst 1), (62, .goto 4), (65, .iconst (-1)), (66, .invokevirtual 393), (69, .aload_n 0), (70, .iload_n 1), (71, .iload_n 2), (72, .invokevirtual 287), (75, .ireturn), (76, .aload_n 0), (77, .iconst 0), (78, .putfield 380), (81, .iload_n 3), (82, .ifCond .eq 8), (85, .iload 4), (87, .ifCond .ne 5), (90, .iconst 0), (91, .ireturn), (92, .iload_n 1), (93, .iload_n 3), (94, .invokestatic 348), (97, .iload_n 1), (98, .iload 4), (100, .invokestatic 348), (103, .imul), (104, .istore 6), (106, .aload_n 0), (107, .iload_n 1), (108, .iload_n 2), (109, .iload_n 3), (110, .invokevirtual 345), (113, .aload_n 0), (114, .getfield 328), (117, .i2l), (118, .lstore 7), (120, .aload_n 0), (121, .getfield 331), (124, .istore 9), (126, .aload_n 0), (127, .iload_n 1), (128, .iload_n 2), (129, .iload 4), (131, .invokevirtual 345), (134, .iload 5), (136, .iconst 2), (137, .if_icmp .ne 31), (140, .aload_n 0), (141, .iload_n 1), (142, .iload_n 2), (143, .lload 7), (145, .aload_n 0), (146, .getfield 328), (149, .i2l), (150, .lmul), (151, .iload 9), (153, .aload_n 0), (154, .getfield 331), (157, .iadd), (158, .lconst 1), (159, .iconst 0), (160, .iload 6), (162, .invokevirtual 389), (165, .goto 24), (168, .aload_n 0), (169, .iload_n 1), (170, .iload_n 2), (171, .lload 7), (173, .iload 9), (175, .aload_n 0), (176, .getfield 328), (179, .i2l), (180, .aload_n 0), (181, .getfield 331), (184, .iload 6), (186, .invokevirtual 389), (189, .ireturn)]
def jm_c210 : List (Nat × Instr) := [(0, .iload_n 3), (1, .ifCond .ne 4), (4, .return_), (5, .aload_n 0), (6, .iload_n 1), (7, .iload_n 2), (8, .iload_n 3), (9, .invokevirtual 345), (12, .aload_n 0), (13, .aload_n 0), (14, .getfield 328), (17, .i2l), (18, .aload_n 0), (19, .getfield 331), (22, .iload 4), (24, .iload_n 1), (25, .iload_n 3), (26, .invokestatic 348), (29, .imul), (30, .invokevirtual 351), (33, .return_)]
def jm_c211 : List (Nat × Instr) := [(0, .aload_n 0), (1, .getfield 37), (4, .ireturn)]
def jm_c212 : List (Nat × Instr) := [(0, .aload_n 0), (1, .getfield 206), (4, .ifCond .ne 5), (7, .iconst 0), (8, .ireturn), (9, .aload_n 0), (10, .dup), (11, .getfield 206), (14, .iconst 1), (15, .isub), (16, .putfield 206), (19, .aload_n 0), (20, .aload_n 0), (21, .getfield 82), (24, .bipush 20), (26, .aload_n 0), (27, .getfield 293), (30, .aload_n 0), (31, .getfield 206), (34, .iadd), (35, .bipush 40), (37, .irem), (38, .imul), (39, .invokevirtual 296), (42, .iconst 1), (43, .ireturn)]
def jm_c213 : List (Nat × Instr) := [(0, .iconst 0), (1, .istore_n 3), (2, .iload_n 3), (3, .bipush 20), (5, .if_icmp .ge 20), (8, .aload_n 0), (9, .getfield 40), (12, .iload_n 3), (13, .aload_n 1), (14, .iload_n 2), (15, .iload_n 3), (16, .iadd), (17, .iaload), (18, .iastore), (19, .iinc 3 1), (22, .goto (-20)), (25, .aload_n 0), (26, .invokevirtual 203), (29, .return_)]
def jm_c214 : List (Nat × Instr) := [(0, .iload_n 1), (1, .iconst 0), (2, .iconst 2), (3, .invokestatic 218), (6, .ifCond .ne 5), (9, .iconst 0), (10, .ireturn), (11, .iconst 0), (12, .istore_n 2), (13, .iload_n 2), (14, .bipush 20), (16, .if_icmp .ge 26), (19, .aload_n 0), (20, .getfield 85), (23, .bipush 20), (25, .iload_n 1), (26, .imul), (27, .iload_n 2), (28, .iadd), (29, .aload_n 0), (30, .getfield 40), (33, .iload_n 2), (34, .iaload), (35, .iastore), (36, .iinc 2 1), (39, .goto (-26)), (42, .aload_n 0), (43, .getfield 88), (46, .iload_n 1), (47, .iconst 1), (48, .bastore), (49, .iconst 1), (50, .ireturn)]
def jm_c215 : List (Nat × Instr) := [(0, .iload_n 1), (1, .iconst 0), (2, .iconst 2), (3, .invokestatic 218), (6, .ifCond .eq 12), (9, .aload_n 0), (10, .getfield 88), (13, .iload_n 1), (14, .baload), (15, .ifCond .ne 5), (18, .iconst 0), (19, .ireturn), (20, .aload_n 0), (21, .aload_n 0), (22, .getfield 85), (25, .bipush 20), (27, .iload_n 1), (28, .imul), (29, .invokevirtual 296), (32, .aload_n 0), (33, .iconst 0), (34, .putfield 206), (37, .iconst 1), (38, .ireturn)]
def jm_c216 : List (Nat × Instr) := [(0, .iload_n 1), (1, .iload_n 2), (2, .invokestatic 290), (5, .ifCond .eq 23), (8, .iload_n 1), (9, .aload_n 0), (10, .getfield 40), (13, .iconst 0), (14, .iaload), (15, .if_icmp .ne 15), (18, .iload_n 2), (19, .aload_n 0), (20, .getfield 40), (23, .iconst 1), (24, .iaload), (25, .if_icmp .ne 5), (28, .iconst 0), (29, .ireturn), (30, .aload_n 0), (31, .invokevirtual 299), (34, .aload_n 0), (35, .getfield 40), (38, .iconst 0), (39, .iload_n 1), (40, .iastore), (41, .aload_n 0), (42, .getfield 40), (45, .iconst 1), (46, .iload_n 2), (47, .iastore), (48, .aload_n 0), (49, .invokevirtual 203), (52, .iconst 1), (53, .ireturn)]
def jm_c217 : List (Nat × Instr) := [(0, .iload_n 0), (1, .iconst 3), (2, .bipush 12), (4, .invokestatic 218), (7, .ifCond .eq 16), (10, .iload_n 1), (11, .iconst 0), (12, .iconst 2), (13, .invokestatic 218), (16, .ifCond .eq 7), (19, .iconst 1), (20, .goto 4), (23, .iconst 0), (24, .ireturn)]
def jm_c218 : List (Nat × Instr) := [(0, .aload_n 0), (1, .getfield 206), (4, .bipush 40), (6, .if_icmp .ne 26), (9, .aload_n 0), (10, .aload_n 0), (11, .getfield 293), (14, .iconst 1), (15, .iadd), (16, .bipush 40), (18, .irem), (19, .putfield 293), (22, .aload_n 0), (23, .dup), (24, .getfield 206), (27, .iconst 1), (28, .isub), (29, .putfield 206), (32, .bipush 20), (34, .aload_n 0), (35, .getfield 293), (38, .aload_n 0), (39, .getfield 206), (42, .iadd), (43, .bipush 40), (45, .irem), (46, .imul), (47, .istore_n 1), (48, .iconst 0), (49, .istore_n 2), (50, .iload_n 2), (51, .bipush 20), (53, .if_icmp .ge 23), (56, .aload_n 0), (57, .getfield 82), (60, .iload_n 1), (61, .iload_n 2), (62, .iadd), (63, .aload_n 0), (64, .getfield 40), (67, .iload_n 2), (68, .iaload), (69, .iastore), (70, .iinc 2 1), (73, .goto (-23)), (76, .aload_n 0), (77, .dup), (78, .getfield 206), (81, .iconst 1), (82, .iadd), (83, .putfield 206), (86, .return_)]
def jm_c219 : List (Nat × Instr) := [(0, .aload_n 0), (1, .getfield 40), (4, .iconst 0), (5, .iaload), (6, .istore 4), (8, .iload 4), (10, .aload_n 0), (11, .getfield 40), (14, .iconst 1), (15, .iaload), (16, .iload_n 1), (17, .invokestatic 302), (20, .ifCond .eq 18), (23, .iload 4), (25, .aload_n 0), (26, .getfield 40), (29, .iconst 1), (30, .iaload), (31, .iload_n 2), (32, .invokestatic 302), (35, .ifCond .ne 5), (38, .iconst 0), (39, .ireturn), (40, .aload_n 0), (41, .invokevirtual 299), (44, .iload 4), (46, .iload_n 1), (47, .invokestatic 276), (50, .ifCond .ne 12), (53, .iload 4), (55, .iload_n 2), (56, .invokestatic 276), (59, .ifCond .eq 34), (62, .iconst 2), (63, .istore 5), (65, .iload 5), (67, .bipush 20), (69, .if_icmp .ge 17), (72, .aload_n 0), (73, .getfield 40), (76, .iload 5), (78, .iconst 0), (79, .iastore), (80, .iinc 5 1), (83, .goto (-18)), (86, .aload_n 0), (87, .getfield 40), (90, .iconst 3), (91, .iconst 1), (92, .iastore), (93, .aload_n 0), (94, .getfield 40), (97, .iconst 3), (98, .iaload), (99, .iconst 1), (100, .if_icmp .ne 5), (103, .iconst 1), (104, .ireturn), (105, .aload_n 0), (106, .invokevirtual 305), (109, .aload_n 0), (110, .iload 4), (112, .aload_n 0), (113, .getfield 40), (116, .iconst 1), (117, .iaload), (118, .iload_n 1), (119, .iload_n 2), (120, .iload_n 3), (121, .ifCond .eq 7), (124, .iconst (-1)), (125, .goto 4), (128, .iconst 1), (129, .invokevirtual 283), (132, .aload_n 0), (133, .getfield 40), (136, .iconst 2), (137, .aload_n 0), (138, .getfield 308), (141, .iastore), (142, .iconst 0), (143, .istore 5), (145, .iload 5), (147, .bipush 16), (149, .if_icmp .ge 25), (152, .aload_n 0), (153, .getfield 40), (156, .iconst 4), (157, .iload 5), (159, .iadd), (160, .aload_n 0), (161, .getfield 92), (164, .iload 5), (166, .iaload), (167, .iastore), (168, .iinc 5 1), (171, .goto (-26)), (174, .iconst 1), (175, .ireturn)]
def jm_c220 : List (Nat × Instr) := [(0, .iload_n 0), (1, .iload_n 1), (2, .invokestatic 290), (5, .ifCond .eq 20), (8, .iload_n 2), (9, .iconst 0), (10, .iconst 1), (11, .iload_n 0), (12, .ishl), (13, .iconst 1), (14, .isub), (15, .invokestatic 218), (18, .ifCond .eq 7), (21, .iconst 1), (22, .goto 4), (25, .iconst 0), (26, .ireturn)]
def jm_c221 : List (Nat × Instr) := [(0, .aload_n 0), (1, .aload_n 0), (2, .getfield 40), (5, .iconst 2), (6, .iaload), (7, .putfield 308), (10, .iconst 0), (11, .istore_n 1), (12, .iload_n 1), (13, .bipush 16), (15, .if_icmp .ge 23), (18, .aload_n 0), (19, .getfield 92), (22, .iload_n 1), (23, .aload_n 0), (24, .getfield 40), (27, .iconst 4), (28, .iload_n 1), (29, .iadd), (30, .iaload), (31, .iastore), (32, .iinc 1 1), (35, .goto (-23)), (38, .return_)]
def jm_c222 : List (Nat × Instr) := [(0, .aload_n 0), (1, .getfield 40), (4, .iconst 2), (5, .iaload), (6, .ifCond .ne 14), (9, .aload_n 0), (10, .getfield 40), (13, .iconst 3), (14, .iaload), (15, .ifCond .ne 5), (18, .iconst 0), (19, .ireturn), (20, .aload_n 0), (21, .invokevirtual 299), (24, .iconst 2), (25, .istore_n 1), (26, .iload_n 1), (27, .bipush 20), (29, .if_icmp .ge 16), (32, .aload_n 0), (33, .getfield 40), (36, .iload_n 1), (37, .iconst 0), (38, .iastore), (39, .iinc 1 1), (42, .goto (-16)), (45, .iconst 1), (46, .ireturn)]
def jm_c223 : List (Nat × Instr) := [(0, .iload_n 1), (1, .iload_n 2), (2, .iload_n 3), (3, .invokestatic 302), (6, .ifCond .eq 37), (9, .iload_n 1), (10, .iload_n 2), (11, .iload 4), (13, .invokestatic 302), (16, .ifCond .eq 27), (19, .iload 5), (21, .iconst 0), (22, .iconst 3), (23, .invokestatic 218), (26, .ifCond .eq 17), (29, .aload_n 0), (30, .iload_n 1), (31, .iload_n 2), (32, .iload_n 3), (33, .iload 4), (35, .iload 5), (37, .invokevirtual 269), (40, .goto 4), (43, .iconst (-1)), (44, .ireturn)]
def jm_c224 : List (Nat × Instr) := [(0, .iload_n 1), (1, .iload_n 2), (2, .iload_n 3), (3, .invokestatic 302), (6, .ifCond .eq 23), (9, .iload_n 1), (10, .iload_n 2), (11, .iload 4), (13, .invokestatic 302), (16, .ifCond .eq 13), (19, .iload 5), (21, .iconst 0), (22, .iconst 3), (23, .invokestatic 218), (26, .ifCond .ne 5), (29, .iconst (-1)), (30, .ireturn), (31, .aload_n 0), (32, .iload_n 1), (33, .iload_n 2), (34, .iload_n 3), (35, .iload 4), (37, .iload 5), (39, .invokevirtual 269), (42, .istore 6), (44, .iload_n 1), (45, .iload 6), (47, .invokestatic 276), (50, .ifCond .eq 8), (53, .bipush (-2)), (55, .goto 7), (58, .aload_n 0), (59, .getfield 380), (62, .ireturn)]
def jm_c225 : List (Nat × Instr) := [(0, .iload_n 1), (1, .iload_n 2), (2, .iload_n 3), (3, .invokestatic 302), (6, .ifCond .eq 13), (9, .aload_n 0), (10, .iload_n 1), (11, .iload_n 2), (12, .iload_n 3), (13, .invokevirtual 262), (16, .goto 4), (19, .iconst (-1)), (20, .ireturn)]
def jm_c226 : List (Nat × Instr) := [(0, .iload_n 1), (1, .iload_n 2), (2, .iload_n 3), (3, .invokestatic 302), (6, .ifCond .eq 13), (9, .iload 4), (11, .iload 5), (13, .invokestatic 290), (16, .ifCond .ne 5), (19, .iconst (-1)), (20, .ireturn), (21, .iload_n 1), (22, .iload_n 3), (23, .invokestatic 276), (26, .ifCond .eq 9), (29, .iload 4), (31, .invokestatic 280), (34, .ireturn), (35, .iload_n 3), (36, .ifCond .ne 7), (39, .iconst 0), (40, .goto 15), (43, .aload_n 0), (44, .iload_n 1), (45, .iload_n 2), (46, .iload_n 3), (47, .iload 4), (49, .iload 5), (51, .iconst 0), (52, .invokevirtual 397), (55, .ireturn)]
def jm_c227 : List (Nat × Instr) := [(0, .iload_n 1), (1, .iload_n 3), (2, .invokestatic 348), (5, .istore 7), (7, .aload_n 0), (8, .iload_n 1), (9, .iload_n 2), (10, .iload_n 3), (11, .invokevirtual 345), (14, .aload_n 0), (15, .iload 4), (17, .iload 5), (19, .aload_n 0), (20, .getfield 328), (23, .i2l), (24, .aload_n 0), (25, .getfield 331), (28, .iload 6), (30, .isub), (31, .lconst 1), (32, .iconst 0), (33, .iload 7), (35, .invokevirtual 389), (38, .ireturn)]
def jm_c228 : List (Nat × Instr) := [(0, .iload_n 1), (1, .iload_n 2), (2, .invokestatic 290), (5, .ifCond .eq 30), (8, .iload_n 3), (9, .ldc_w 401), (12, .ldc_w 402), (15, .invokestatic 218), (18, .ifCond .eq 17), (21, .iload 4), (23, .ldc_w 401), (26, .ldc_w 402), (29, .invokestatic 218), (32, .ifCond .ne 5), (35, .iconst (-1)), (36, .ireturn), (37, .iload 4), (39, .ifCond .ne 8), (42, .iload_n 1), (43, .invokestatic 280), (46, .ireturn), (47, .aload_n 0), (48, .iload_n 1), (49, .iload_n 2), (50, .iload_n 3), (51, .ifCond .ge 9), (54, .iload_n 3), (55, .ineg), (56, .i2l), (57, .goto 5), (60, .iload_n 3), (61, .i2l), (62, .iconst 0), (63, .iload 4), (65, .ifCond .ge 10), (68, .iload 4), (70, .ineg), (71, .i2l), (72, .goto 6), (75, .iload 4), (77, .i2l), (78, .iconst 0), (79, .iload_n 3), (80, .ifCond .ge 7), (83, .iconst 1), (84, .goto 4), (87, .iconst 0), (88, .iload 4), (90, .ifCond .ge 7), (93, .iconst 1), (94, .goto 4), (97, .iconst 0), (98, .if_icmp .ne 7), (101, .iconst 1), (102, .goto 4), (105, .iconst (-1)), (106, .invokevirtual 389), (109, .ireturn)]
def jm_c229 : List (Nat × Instr) := [(0, .iload_n 1), (1, .iload_n 2), (2, .iload_n 3), (3, .invokestatic 302), (6, .ifCond .eq 23), (9, .iload_n 1), (10, .iload_n 2), (11, .iload 4), (13, .invokestatic 302), (16, .ifCond .eq 13), (19, .iload_n 1), (20, .iload_n 2), (21, .iload 5), (23, .invokestatic 302), (26, .ifCond .ne 5), (29, .iconst (-1)), (30, .ireturn), (31, .iload_n 1), (32, .iload_n 3), (33, .invokestatic 276), (36, .ifCond .ne 21), (39, .iload_n 1), (40, .iload 4), (42, .invokestatic 276), (45, .ifCond .ne 12), (48, .iload_n 1), (49, .iload 5), (51, .invokestatic 276), (54, .ifCond .eq 8), (57, .iload_n 1), (58, .invokestatic 280), (61, .ireturn), (62, .aload_n 0), (63, .invokevirtual 273), (66, .aload_n 0), (67, .iload_n 1), (68, .iload_n 2), (69, .iload_n 3), (70, .iload 4), (72, .iconst 1), (73, .invokevirtual 283), (76, .aload_n 0), (77, .iload_n 1), (78, .iload_n 2), (79, .iload 5), (81, .iconst 1), (82, .invokevirtual 393), (85, .aload_n 0), (86, .iload_n 1), (87, .iload_n 2), (88, .invokevirtual 287), (91, .ireturn)]
def jm_c230 : List (Nat × Instr) := [(0, .iload_n 1), (1, .iload_n 2), (2, .iload_n 3), (3, .invokestatic 302), (6, .ifCond .eq 13), (9, .iload_n 1), (10, .iload_n 2), (11, .iload 4), (13, .invokestatic 302), (16, .ifCond .ne 6), (19, .bipush (-2)), (21, .ireturn), (22, .iload_n 1), (23, .iload_n 3), (24, .invokestatic 403), (27, .istore 5), (29, .iload_n 1), (30, .iload 4), (32, .invokestatic 403), (35, .istore 6), (37, .iload 5), (39, .iload 6), (41, .if_icmp .ge 7), (44, .iconst (-1)), (45, .goto 15), (48, .iload 5), (50, .iload 6), (52, .if_icmp .le 7), (55, .iconst 1), (56, .goto 4), (59, .iconst 0), (60, .ireturn)]
def jm_c231 : List (Nat × Instr) := [(0, .iload_n 1), (1, .iload_n 0), (2, .invokestatic 280), (5, .if_icmp .lt 11), (8, .iload_n 1), (9, .iconst 1), (10, .iload_n 0), (11, .ishl), (12, .isub), (13, .goto 4), (16, .iload_n 1), (17, .ireturn)]
def jm_c232 : List (Nat × Instr) := [(0, .iload_n 1), (1, .iload_n 2), (2, .iload_n 3), (3, .invokestatic 302), (6, .ifCond .eq 30), (9, .iload_n 1), (10, .iload_n 2), (11, .iload 4), (13, .invokestatic 302), (16, .ifCond .eq 20), (19, .iload_n 1), (20, .iload_n 3), (21, .invokestatic 276), (24, .ifCond .ne 12), (27, .iload_n 1), (28, .iload 4), (30, .invokestatic 276), (33, .ifCond .eq 5), (36, .iconst (-1)), (37, .ireturn), (38, .iload_n 1), (39, .iload 4), (41, .invokestatic 403), (44, .iload_n 1), (45, .iload_n 3), (46, .invokestatic 403), (49, .isub), (50, .iconst 1), (51, .iadd), (52, .istore 5), (54, .iload 5), (56, .ifCond .ge 7), (59, .iconst 0), (60, .goto 5), (63, .iload 5), (65, .ireturn)]
def jm_c233 : List (Nat × Instr) := [(0, .iload_n 1), (1, .iload_n 2), (2, .iload_n 3), (3, .invokestatic 302), (6, .ifCond .eq 14), (9, .iload 4), (11, .iconst 0), (12, .bipush 11), (14, .invokestatic 218), (17, .ifCond .ne 7), (20, .ldc_w 410), (23, .ireturn), (24, .iload 4), (26, .bipush 9), (28, .if_icmp .ne 9), (31, .iload_n 1), (32, .iload_n 3), (33, .invokestatic 259), (36, .ireturn), (37, .iload_n 1), (38, .iload_n 3), (39, .invokestatic 276), (42, .ifCond .eq 7), (45, .ldc_w 410), (48, .ireturn), (49, .iload 4), (51, .ifCond .ne 9), (54, .iload_n 1), (55, .iload_n 3), (56, .invokestatic 348), (59, .ireturn), (60, .iload 4), (62, .bipush 8), (64, .if_icmp .ne 11), (67, .aload_n 0), (68, .iload_n 1), (69, .iload_n 2), (70, .iload_n 3), (71, .invokevirtual 411), (74, .ireturn), (75, .iload 4), (77, .bipush 10), (79, .if_icmp .ne 28), (82, .iload_n 3), (83, .iload_n 1), (84, .invokestatic 280), (87, .iconst 1), (88, .isub), (89, .if_icmp .ne 8), (92, .bipush (-2)), (94, .goto 12), (97, .iload_n 3), (98, .iconst 1), (99, .iadd), (100, .iconst 1), (101, .iload_n 1), (102, .ishl), (103, .iconst 1), (104, .isub), (105, .iand), (106, .ireturn), (107, .iload 4), (109, .bipush 11), (111, .if_icmp .ne 28), (114, .iload_n 3), (115, .iload_n 1), (116, .invokestatic 280), (119, .iconst 1), (120, .iadd), (121, .if_icmp .ne 8), (124, .bipush (-2)), (126, .goto 12), (129, .iload_n 3), (130, .iconst 1), (131, .isub), (132, .iconst 1), (133, .iload_n 1), (134, .ishl), (135, .iconst 1), (136, .isub), (137, .iand), (138, .ireturn), (139, .iload_n 3), (140, .ifCond .ne 7), (143, .ldc_w 410), (146, .ireturn), (147, .aload_n 0), (148, .iload_n 1), (149, .iload_n 2), (150, .iload_n 3), (151, .invokevirtual 345), (154, .iload 4), (156, .iconst 5), (157, .if_icmp .le 7), (160, .aload_n 0), (161, .invokevirtual 414), (164, .aload_n 0), (165, .iload 4), (167, .invokevirtual 417), (170, .ireturn)]
def jm_c234 : List (Nat × Instr) := [(0, .iload_n 3), (1, .ifCond .ne 5), (4, .iconst 0), (5, .ireturn), (6, .aload_n 0), (7, .iload_n 1), (8, .iload_n 2), (9, .iload_n 3), (10, .invokevirtual 345), (13, .aload_n 0), (14, .getfield 331), (17, .ifCond .lt 18), (20, .aload_n 0), (21, .getfield 328), (24, .i2l), (25, .aload_n 0), (26, .getfield 331), (29, .lshl), (30, .lstore 4), (32, .goto 69), (35, .lconst 1), (36, .aload_n 0), (37, .getfield 331), (40, .ineg), (41, .lshl), (42, .lstore 6), (44, .aload_n 0), (45, .getfield 328), (48, .i2l), (49, .lload 6), (51, .ldiv), (52, .lstore 4), (54, .ldc2_w 406), (57, .aload_n 0), (58, .getfield 328), (61, .i2l), (62, .lload 6), (64, .lrem), (65, .lmul), (66, .lstore 8), (68, .lload 8), (70, .lload 6), (72, .lcmp), (73, .ifCond .gt 22), (76, .lload 8), (78, .lload 6), (80, .lcmp), (81, .ifCond .ne 20), (84, .lload 4), (86, .ldc2_w 406), (89, .lrem), (90, .lconst 1), (91, .lcmp), (92, .ifCond .ne 9), (95, .lload 4), (97, .lconst 1), (98, .ladd), (99, .lstore 4), (101, .lload 4), (103, .ldc2_w 408), (106, .lcmp), (107, .ifCond .le 9), (110, .ldc2_w 408), (113, .goto 5), (116, .lload 4), (118, .lstore 4), (120, .iload_n 1), (121, .iload_n 3), (122, .invokestatic 348), (125, .i2l), (126, .lload 4), (128, .lmul), (129, .l2i), (130, .ireturn)]
def jm_c235 : List (Nat × Instr) := [(0, .aload_n 0), (1, .getfield 328), (4, .iconst 2), (5, .irem), (6, .ifCond .ne 26), (9, .aload_n 0), (10, .dup), (11, .getfield 328), (14, .iconst 2), (15, .idiv), (16, .putfield 328), (19, .aload_n 0), (20, .dup), (21, .getfield 331), (24, .iconst 1), (25, .iadd), (26, .putfield 331), (29, .goto (-29)), (32, .return_)]
def jm_c236 : List (Nat × Instr) := [(0, .iload_n 1), (1, .tableswitch 69 1 6 #[39, 44, 49, 54, 59, 64]), (40, .aload_n 0), (41, .getfield 313), (44, .ireturn), (45, .aload_n 0), (46, .getfield 316), (49, .ireturn), (50, .aload_n 0), (51, .getfield 322), (54, .ireturn), (55, .aload_n 0), (56, .getfield 319), (59, .ireturn), (60, .aload_n 0), (61, .getfield 325), (64, .ireturn), (65, .aload_n 0), (66, .getfield 328), (69, .ireturn), (70, .aload_n 0), (71, .getfield 331), (74, .ireturn)]
def jm_c237 : List (Nat × Instr) := [(0, .iload_n 1), (1, .iload_n 2), (2, .iload_n 3), (3, .invokestatic 302), (6, .ifCond .ne 5), (9, .iconst (-1)), (10, .ireturn), (11, .aload_n 0), (12, .iload_n 1), (13, .iload_n 2), (14, .iload_n 3), (15, .invokevirtual 434), (18, .iload 4), (20, .iconst (-1)), (21, .if_icmp .ne 10), (24, .aload_n 0), (25, .getfield 420), (28, .goto 29), (31, .iload 4), (33, .iconst 0), (34, .aload_n 0), (35, .getfield 420), (38, .iconst 1), (39, .isub), (40, .invokestatic 218), (43, .ifCond .eq 13), (46, .aload_n 0), (47, .getfield 98), (50, .iload 4), (52, .iaload), (53, .goto 4), (56, .iconst (-1)), (57, .ireturn)]
def jm_c238 : List (Nat × Instr) := [(0, .aload_n 0), (1, .iconst 0), (2, .putfield 420), (5, .iload_n 1), (6, .iload_n 3), (7, .invokestatic 276), (10, .ifCond .eq 22), (13, .aload_n 0), (14, .bipush 110), (16, .invokevirtual 427), (19, .aload_n 0), (20, .bipush 105), (22, .invokevirtual 427), (25, .aload_n 0), (26, .bipush 108), (28, .invokevirtual 427), (31, .return_), (32, .iload_n 3), (33, .ifCond .ne 10), (36, .aload_n 0), (37, .bipush 48), (39, .invokevirtual 427), (42, .return_), (43, .iload_n 1), (44, .iload_n 3), (45, .invokestatic 348), (48, .ifCond .ge 9), (51, .aload_n 0), (52, .bipush 45), (54, .invokevirtual 427), (57, .aload_n 0), (58, .iload_n 1), (59, .iload_n 2), (60, .iload_n 3), (61, .invokevirtual 345), (64, .aload_n 0), (65, .getfield 331), (68, .ifCond .lt 18), (71, .aload_n 0), (72, .aload_n 0), (73, .getfield 328), (76, .i2l), (77, .aload_n 0), (78, .getfield 331), (81, .lshl), (82, .invokevirtual 430), (85, .return_), (86, .lconst 1), (87, .aload_n 0), (88, .getfield 331), (91, .ineg), (92, .lshl), (93, .lstore 4), (95, .aload_n 0), (96, .aload_n 0), (97, .getfield 328), (100, .i2l), (101, .lload 4), (103, .ldiv), (104, .invokevirtual 430), (107, .aload_n 0), (108, .getfield 328), (111, .i2l), (112, .lload 4), (114, .lrem), (115, .lstore 6), (117, .lload 6), (119, .lconst 0), (120, .lcmp), (121, .ifCond .le 9), (124, .aload_n 0), (125, .bipush 46), (127, .invokevirtual 427), (130, .lload 6), (132, .lconst 0), (133, .lcmp), (134, .ifCond .le 34), (137, .lload 6), (139, .ldc2_w 425), (142, .lmul), (143, .lstore 6), (145, .aload_n 0), (146, .bipush 48), (148, .lload 6), (150, .lload 4), (152, .ldiv), (153, .l2i), (154, .iadd), (155, .invokevirtual 427), (158, .lload 6), (160, .lload 4), (162, .lrem), (163, .lstore 6), (165, .goto (-35)), (168, .return_)]
def jm_c239 : List (Nat × Instr) := [(0, .aload_n 0), (1, .getfield 98), (4, .aload_n 0), (5, .getfield 420), (8, .iload_n 1), (9, .iastore), (10, .aload_n 0), (11, .dup), (12, .getfield 420), (15, .iconst 1), (16, .iadd), (17, .putfield 420), (20, .return_)]
def jm_c240 : List (Nat × Instr) := [(0, .lconst 1), (1, .lstore_n 3), (2, .lload_n 1), (3, .lload_n 3), (4, .ldiv), (5, .ldc2_w 423), (8, .lcmp), (9, .ifCond .le 12), (12, .lload_n 3), (13, .ldc2_w 425), (16, .lmul), (17, .lstore_n 3), (18, .goto (-16)), (21, .lload_n 3), (22, .lconst 0), (23, .lcmp), (24, .ifCond .le 27), (27, .aload_n 0), (28, .bipush 48), (30, .lload_n 1), (31, .lload_n 3), (32, .ldiv), (33, .ldc2_w 425), (36, .lrem), (37, .l2i), (38, .iadd), (39, .invokevirtual 427), (42, .lload_n 3), (43, .ldc2_w 425), (46, .ldiv), (47, .lstore_n 3), (48, .goto (-27)), (51, .return_)]
def jm_c241 : List (Nat × Instr) := [(0, .iload_n 1), (1, .iload_n 2), (2, .iload_n 3), (3, .invokestatic 302), (6, .ifCond .eq 23), (9, .iload_n 1), (10, .iload_n 2), (11, .iload 4), (13, .invokestatic 302), (16, .ifCond .eq 13), (19, .iload 5), (21, .iconst 0), (22, .iconst 2), (23, .invokestatic 218), (26, .ifCond .ne 5), (29, .iconst (-1)), (30, .ireturn), (31, .iconst 0), (32, .istore 6), (34, .iload 6), (36, .iconst 1), (37, .iload_n 1), (38, .ishl), (39, .if_icmp .ge 17), (42, .aload_n 0), (43, .getfield 101), (46, .iload 6), (48, .iconst (-1)), (49, .iastore), (50, .iinc 6 1), (53, .goto (-19)), (56, .iconst 0), (57, .istore 6), (59, .iload 4), (61, .istore 7), (63, .iconst 1), (64, .istore 8), (66, .iconst 0), (67, .istore 9), (69, .iload 8), (71, .ifCond .eq 86), (74, .aload_n 0), (75, .getfield 101), (78, .iload 7), (80, .iload 6), (82, .iastore), (83, .aload_n 0), (84, .iload_n 1), (85, .iload_n 2), (86, .iload_n 3), (87, .iload 7), (89, .invokevirtual 437), (92, .istore 7), (94, .iinc 6 1), (97, .iload_n 1), (98, .iload 7), (100, .invokestatic 276), (103, .ifCond .ne 17), (106, .aload_n 0), (107, .getfield 101), (110, .iload 7), (112, .iaload), (113, .ifCond .ge 7), (116, .iconst 1), (117, .goto 4), (120, .iconst 0), (121, .istore 8), (123, .iload_n 1), (124, .iload 7), (126, .invokestatic 276), (129, .ifCond .ne (-60)), (132, .aload_n 0), (133, .getfield 101), (136, .iload 7), (138, .iaload), (139, .ifCond .lt (-70)), (142, .iload 6), (144, .aload_n 0), (145, .getfield 101), (148, .iload 7), (150, .iaload), (151, .isub), (152, .istore 9), (154, .goto (-85)), (157, .iload 5), (159, .ifCond .ne 8), (162, .iload 6), (164, .goto 16), (167, .iload 5), (169, .iconst 1), (170, .if_icmp .ne 8), (173, .iload 7), (175, .goto 5), (178, .iload 9), (180, .ireturn)]
def jm_c242 : List (Nat × Instr) := [(0, .aload_n 0), (1, .iload_n 1), (2, .iload_n 2), (3, .iload 4), (5, .aload_n 0), (6, .iload_n 1), (7, .iload_n 2), (8, .iload_n 3), (9, .iload 4), (11, .iconst 3), (12, .invokevirtual 269), (15, .iconst 0), (16, .invokevirtual 269), (19, .istore 5), (21, .iload_n 1), (22, .iload 5), (24, .invokestatic 276), (27, .ifCond .ne 8), (30, .iload 5), (32, .ifCond .ne 8), (35, .iload 5), (37, .goto 14), (40, .aload_n 0), (41, .iload_n 1), (42, .iload_n 2), (43, .iload 5), (45, .iload_n 1), (46, .iload_n 2), (47, .iconst 1), (48, .invokevirtual 397), (51, .ireturn)]
def jm_c243 : List (Nat × Instr) := [(0, .iload_n 1), (1, .iload_n 2), (2, .iload_n 3), (3, .invokestatic 302), (6, .ifCond .eq 14), (9, .iload 4), (11, .iconst 0), (12, .bipush 50), (14, .invokestatic 218), (17, .ifCond .ne 5), (20, .iconst (-1)), (21, .ireturn), (22, .iconst 1), (23, .iload_n 1), (24, .iconst 2), (25, .isub), (26, .ishl), (27, .istore 5), (29, .iconst 0), (30, .istore 6), (32, .iload 6), (34, .iload 4), (36, .if_icmp .ge 21), (39, .aload_n 0), (40, .iload_n 1), (41, .iload_n 2), (42, .iload 5), (44, .iload_n 3), (45, .iconst 2), (46, .invokevirtual 269), (49, .istore 5), (51, .iinc 6 1), (54, .goto (-22)), (57, .iload 5), (59, .ireturn)]
def jm_c244 : List (Nat × Instr) := [(0, .iload_n 1), (1, .iload_n 2), (2, .iload_n 3), (3, .invokestatic 302), (6, .ifCond .eq 33), (9, .iload_n 1), (10, .iload_n 3), (11, .invokestatic 276), (14, .ifCond .ne 25), (17, .iload 4), (19, .iconst 1), (20, .sipush 1000), (23, .invokestatic 218), (26, .ifCond .eq 13), (29, .iload 5), (31, .iconst 0), (32, .iconst 1), (33, .invokestatic 218), (36, .ifCond .ne 7), (39, .ldc2_w 440), (42, .lreturn), (43, .iload_n 3), (44, .ifCond .ne 7), (47, .iload 5), (49, .i2l), (50, .lreturn), (51, .aload_n 0), (52, .iload_n 1), (53, .iload_n 2), (54, .iload_n 3), (55, .invokevirtual 345), (58, .iload_n 1), (59, .iload_n 3), (60, .invokestatic 348), (63, .i2l), (64, .aload_n 0), (65, .getfield 328), (68, .i2l), (69, .lmul), (70, .lstore 6), (72, .aload_n 0), (73, .getfield 331), (76, .ifCond .ge 21), (79, .aload_n 0), (80, .lload 6), (82, .aload_n 0), (83, .getfield 331), (86, .ineg), (87, .iload 4), (89, .iload 5), (91, .invokevirtual 442), (94, .goto 19), (97, .iload 5), (99, .ifCond .ne 13), (102, .lload 6), (104, .aload_n 0), (105, .getfield 331), (108, .lshl), (109, .goto 4), (112, .lconst 1), (113, .lreturn)]
def jm_c245 : List (Nat × Instr) := [(0, .lconst 1), (1, .iload_n 3), (2, .lshl), (3, .lstore 6), (5, .lconst 0), (6, .lstore 8), (8, .lconst 0), (9, .lstore 10), (11, .lconst 0), (12, .lstore 12), (14, .lconst 1), (15, .lstore 14), (17, .lload 14), (19, .iload 4), (21, .i2l), (22, .lcmp), (23, .ifCond .gt 113), (26, .lload_n 1), (27, .lload 14), (29, .lmul), (30, .lstore 16), (32, .lload 16), (34, .lload 6), (36, .ldiv), (37, .lstore 18), (39, .lload 18), (41, .lload 6), (43, .lmul), (44, .lload 16), (46, .lcmp), (47, .ifCond .le 9), (50, .lload 18), (52, .lconst 1), (53, .lsub), (54, .lstore 18), (56, .lload 16), (58, .lload 18), (60, .lload 6), (62, .lmul), (63, .lsub), (64, .lstore 20), (66, .ldc2_w 406), (69, .lload 20), (71, .lmul), (72, .lload 6), (74, .lcmp), (75, .ifCond .le 16), (78, .lload 18), (80, .lconst 1), (81, .ladd), (82, .lstore 18), (84, .lload 6), (86, .lload 20), (88, .lsub), (89, .lstore 20), (91, .lload 10), (93, .lconst 0), (94, .lcmp), (95, .ifCond .le 20), (98, .lload 20), (100, .lload 10), (102, .lmul), (103, .lload 12), (105, .lload 14), (107, .lmul), (108, .lcmp), (109, .ifCond .lt 6), (112, .goto 15), (115, .lload 18), (117, .lstore 8), (119, .lload 14), (121, .lstore 10), (123, .lload 20), (125, .lstore 12), (127, .lload 14), (129, .lconst 1), (130, .ladd), (131, .lstore 14), (133, .goto (-116)), (136, .iload 5), (138, .ifCond .ne 8), (141, .lload 8), (143, .goto 5), (146, .lload 10), (148, .lreturn)]
def jm_c246 : List (Nat × Instr) := [(0, .iload_n 1), (1, .bipush (-100)), (3, .bipush 100), (5, .invokestatic 218), (8, .ifCond .ne 5), (11, .iconst (-1)), (12, .ireturn), (13, .aload_n 0), (14, .getfield 40), (17, .iconst 3), (18, .iaload), (19, .iconst 1), (20, .if_icmp .ne 6), (23, .bipush (-2)), (25, .ireturn), (26, .iload_n 1), (27, .bipush 112), (29, .iadd), (30, .istore_n 2), (31, .aload_n 0), (32, .getfield 40), (35, .iconst 4), (36, .iload_n 2), (37, .bipush 16), (39, .idiv), (40, .iadd), (41, .iaload), (42, .iload_n 2), (43, .bipush 16), (45, .irem), (46, .ishr), (47, .iconst 1), (48, .iand), (49, .ireturn)]
def jm_c247 : List (Nat × Instr) := [(0, .iload_n 1), (1, .iload_n 2), (2, .invokestatic 290), (5, .ifCond .ne 5), (8, .iconst (-1)), (9, .ireturn), (10, .aload_n 0), (11, .getfield 40), (14, .iconst 3), (15, .iaload), (16, .iconst 1), (17, .if_icmp .ne 8), (20, .iload_n 1), (21, .invokestatic 280), (24, .ireturn), (25, .aload_n 0), (26, .invokevirtual 305), (29, .aload_n 0), (30, .iload_n 1), (31, .iload_n 2), (32, .invokevirtual 287), (35, .ireturn)]
def jm_c248 : List (Nat × Instr) := [(0, .iload_n 1), (1, .iload_n 2), (2, .invokestatic 290), (5, .ifCond .eq 12), (8, .iload_n 3), (9, .iconst 0), (10, .iconst 2), (11, .invokestatic 218), (14, .ifCond .ne 5), (17, .iconst (-1)), (18, .ireturn), (19, .iload_n 1), (20, .bipush 6), (22, .if_icmp .le 6), (25, .bipush (-2)), (27, .ireturn), (28, .iconst 0), (29, .istore 4), (31, .iconst 0), (32, .istore 5), (34, .iload 5), (36, .iconst 1), (37, .iload_n 1), (38, .ishl), (39, .if_icmp .ge 89), (42, .iconst 0), (43, .istore 6), (45, .iload 6), (47, .iconst 1), (48, .iload_n 1), (49, .ishl), (50, .if_icmp .ge 72), (53, .iload_n 1), (54, .iload 5), (56, .invokestatic 276), (59, .ifCond .ne 57), (62, .iload_n 1), (63, .iload 6), (65, .invokestatic 276), (68, .ifCond .eq 6), (71, .goto 45), (74, .aload_n 0), (75, .iload_n 1), (76, .iload_n 2), (77, .iload 5), (79, .iload 6), (81, .iload_n 3), (82, .ifCond .ne 7), (85, .iconst 0), (86, .goto 6), (89, .iload_n 3), (90, .iconst 1), (91, .iadd), (92, .invokevirtual 269), (95, .istore 7), (97, .iload_n 1), (98, .iload 7), (100, .invokestatic 276), (103, .ifCond .ne 13), (106, .aload_n 0), (107, .getfield 380), (110, .ifCond .ne 6), (113, .iinc 4 1), (116, .iinc 6 1), (119, .goto (-74)), (122, .iinc 5 1), (125, .goto (-91)), (128, .iload 4), (130, .ireturn)]
def jm_c249 : List (Nat × Instr) := [(0, .iload_n 1), (1, .iconst 0), (2, .aload_n 0), (3, .getfield 200), (6, .iconst 1), (7, .isub), (8, .invokestatic 218), (11, .ifCond .eq 12), (14, .iload_n 2), (15, .iconst 0), (16, .iconst 3), (17, .invokestatic 218), (20, .ifCond .ne 7), (23, .ldc_w 410), (26, .ireturn), (27, .aload_n 0), (28, .getfield 40), (31, .iconst 0), (32, .iaload), (33, .istore_n 3), (34, .aload_n 0), (35, .getfield 55), (38, .iload_n 1), (39, .iaload), (40, .istore 4), (42, .iload_n 2), (43, .ifCond .ne 6), (46, .iload 4), (48, .ireturn), (49, .iload_n 3), (50, .iload 4), (52, .invokestatic 276), (55, .ifCond .eq 6), (58, .bipush (-2)), (60, .ireturn), (61, .iload_n 2), (62, .iconst 1), (63, .if_icmp .ne 17), (66, .aload_n 0), (67, .iload_n 3), (68, .aload_n 0), (69, .getfield 40), (72, .iconst 1), (73, .iaload), (74, .iload 4), (76, .invokevirtual 411), (79, .ireturn), (80, .iload 4), (82, .ifCond .ne 6), (85, .bipush (-2)), (87, .ireturn), (88, .aload_n 0), (89, .iload_n 3), (90, .aload_n 0), (91, .getfield 40), (94, .iconst 1), (95, .iaload), (96, .iload 4), (98, .invokevirtual 345), (101, .aload_n 0), (102, .invokevirtual 414), (105, .iload_n 2), (106, .iconst 2), (107, .if_icmp .ne 10), (110, .aload_n 0), (111, .getfield 328), (114, .goto 7), (117, .aload_n 0), (118, .getfield 331), (121, .ireturn)]
def jm_c250 : List (Nat × Instr) := [(0, .iload_n 1), (1, .tableswitch 205 0 10 #[59, 66, 73, 78, 100, 105, 110, 115, 120, 165, 186]), (60, .aload_n 0), (61, .getfield 40), (64, .iconst 0), (65, .iaload), (66, .ireturn), (67, .aload_n 0), (68, .getfield 40), (71, .iconst 1), (72, .iaload), (73, .ireturn), (74, .aload_n 0), (75, .getfield 200), (78, .ireturn), (79, .aload_n 0), (80, .getfield 40), (83, .iconst 3), (84, .iaload), (85, .iconst 1), (86, .if_icmp .ne 8), (89, .bipush (-2)), (91, .goto 9), (94, .aload_n 0), (95, .getfield 40), (98, .iconst 2), (99, .iaload), (100, .ireturn), (101, .aload_n 0), (102, .invokevirtual 451), (105, .ireturn), (106, .aload_n 0), (107, .invokevirtual 455), (110, .ireturn), (111, .aload_n 0), (112, .getfield 108), (115, .ireturn), (116, .aload_n 0), (117, .getfield 206), (120, .ireturn), (121, .aload_n 0), (122, .getfield 88), (125, .iconst 0), (126, .baload), (127, .ifCond .eq 7), (130, .iconst 1), (131, .goto 4), (134, .iconst 0), (135, .aload_n 0), (136, .getfield 88), (139, .iconst 1), (140, .baload), (141, .ifCond .eq 7), (144, .iconst 1), (145, .goto 4), (148, .iconst 0), (149, .iadd), (150, .aload_n 0), (151, .getfield 88), (154, .iconst 2), (155, .baload), (156, .ifCond .eq 7), (159, .iconst 1), (160, .goto 4), (163, .iconst 0), (164, .iadd), (165, .ireturn), (166, .aload_n 0), (167, .getfield 40), (170, .iconst 3), (171, .iaload), (172, .iconst 1), (173, .if_icmp .ne 9), (176, .sipush (-1000)), (179, .goto 7), (182, .aload_n 0), (183, .invokevirtual 458), (186, .ireturn), (187, .aload_n 0), (188, .getfield 40), (191, .iconst 3), (192, .iaload), (193, .iconst 1), (194, .if_icmp .ne 7), (197, .iconst 0), (198, .goto 7), (201, .aload_n 0), (202, .invokevirtual 461), (205, .ireturn), (206, .iconst (-1)), (207, .ireturn)]
def jm_c251 : List (Nat × Instr) := [(0, .iconst 0), (1, .istore_n 1), (2, .iconst 0), (3, .istore_n 2), (4, .iload_n 2), (5, .aload_n 0), (6, .getfield 200), (9, .if_icmp .ge 33), (12, .aload_n 0), (13, .getfield 40), (16, .iconst 0), (17, .iaload), (18, .aload_n 0), (19, .getfield 55), (22, .iload_n 2), (23, .iaload), (24, .invokestatic 276), (27, .ifCond .eq 9), (30, .iload_n 1), (31, .iconst 1), (32, .iload_n 2), (33, .ishl), (34, .ior), (35, .istore_n 1), (36, .iinc 2 1), (39, .goto (-35)), (42, .iload_n 1), (43, .ireturn)]
def jm_c252 : List (Nat × Instr) := [(0, .iconst 0), (1, .istore_n 1), (2, .iconst 0), (3, .istore_n 2), (4, .iload_n 2), (5, .aload_n 0), (6, .getfield 200), (9, .if_icmp .ge 59), (12, .iconst 1), (13, .istore_n 3), (14, .iconst 0), (15, .istore 4), (17, .iload 4), (19, .iload_n 2), (20, .if_icmp .ge 35), (23, .iload_n 3), (24, .ifCond .eq 23), (27, .aload_n 0), (28, .getfield 55), (31, .iload 4), (33, .iaload), (34, .aload_n 0), (35, .getfield 55), (38, .iload_n 2), (39, .iaload), (40, .if_icmp .eq 7), (43, .iconst 1), (44, .goto 4), (47, .iconst 0), (48, .istore_n 3), (49, .iinc 4 1), (52, .goto (-35)), (55, .iload_n 3), (56, .ifCond .eq 6), (59, .iinc 1 1), (62, .iinc 2 1), (65, .goto (-61)), (68, .iload_n 1), (69, .ireturn)]
def jm_c253 : List (Nat × Instr) := [(0, .aload_n 0), (1, .getfield 40), (4, .iconst 2), (5, .iaload), (6, .ifCond .ne 7), (9, .sipush (-1000)), (12, .ireturn), (13, .sipush 255), (16, .istore_n 1), (17, .aload_n 0), (18, .getfield 40), (21, .iconst 4), (22, .iload_n 1), (23, .bipush 16), (25, .idiv), (26, .iadd), (27, .iaload), (28, .iload_n 1), (29, .bipush 16), (31, .irem), (32, .invokestatic 310), (35, .ifCond .ne 9), (38, .iinc 1 (-1)), (41, .goto (-24)), (44, .iload_n 1), (45, .bipush 112), (47, .isub), (48, .ireturn)]
def jm_c254 : List (Nat × Instr) := [(0, .aload_n 0), (1, .getfield 40), (4, .iconst 2), (5, .iaload), (6, .ifCond .ne 5), (9, .iconst 0), (10, .ireturn), (11, .lconst 0), (12, .lstore_n 1), (13, .bipush 15), (15, .istore_n 3), (16, .iload_n 3), (17, .bipush 7), (19, .if_icmp .lt 39), (22, .lload_n 1), (23, .ldc2_w 408), (26, .lcmp), (27, .ifCond .le 9), (30, .ldc2_w 446), (33, .goto 18), (36, .ldc2_w 448), (39, .lload_n 1), (40, .lmul), (41, .aload_n 0), (42, .getfield 40), (45, .iconst 4), (46, .iload_n 3), (47, .iadd), (48, .iaload), (49, .i2l), (50, .ladd), (51, .lstore_n 1), (52, .iinc 3 (-1)), (55, .goto (-39)), (58, .aload_n 0), (59, .getfield 40), (62, .bipush 10), (64, .iaload), (65, .istore_n 3), (66, .iload_n 3), (67, .ldc_w 450), (70, .if_icmp .ne 7), (73, .iconst 1), (74, .goto 4), (77, .iconst 0), (78, .istore 4), (80, .iconst 0), (81, .istore 5), (83, .iload 5), (85, .bipush 6), (87, .if_icmp .ge 33), (90, .iload 4), (92, .ifCond .eq 19), (95, .aload_n 0), (96, .getfield 40), (99, .iconst 4), (100, .iload 5), (102, .iadd), (103, .iaload), (104, .ifCond .ne 7), (107, .iconst 1), (108, .goto 4), (111, .iconst 0), (112, .istore 4), (114, .iinc 5 1), (117, .goto (-34)), (120, .iload_n 3), (121, .ldc_w 450), (124, .if_icmp .lt 22), (127, .iload 4), (129, .ifCond .eq 13), (132, .lload_n 1), (133, .ldc2_w 406), (136, .lrem), (137, .lconst 1), (138, .lcmp), (139, .ifCond .ne 7), (142, .lload_n 1), (143, .lconst 1), (144, .ladd), (145, .lstore_n 1), (146, .aload_n 0), (147, .getfield 40), (150, .iconst 2), (151, .iaload), (152, .lload_n 1), (153, .ldc2_w 408), (156, .lcmp), (157, .ifCond .le 9), (160, .ldc2_w 408), (163, .goto 4), (166, .lload_n 1), (167, .l2i), (168, .imul), (169, .ireturn)]
def jm_c255 : List (Nat × Instr) := [(0, .new 7), (3, .dup), (4, .invokespecial 9), (7, .astore_n 1), (8, .new 10), (11, .dup), (12, .invokespecial 12), (15, .astore_n 2), (16, .iconst 0), (17, .istore_n 3), (18, .iload_n 3), (19, .aload_n 0), (20, .arraylength), (21, .bipush 6), (23, .isub), (24, .if_icmp .gt 1313), (27, .aload_n 0), (28, .iload_n 3), (29, .iaload), (30, .bipush 31), (32, .iand), (33, .tableswitch 1298 0 27 #[127, 190, 213, 226, 239, 272, 331, 344, 357, 410, 473, 536, 579, 642, 695, 748, 801, 864, 917, 980, 1003, 1056, 1120, 1153, 1196, 1229, 1252, 1275]), (160, .aload_n 1), (161, .aload_n 0), (162, .iload_n 3), (163, .iconst 1), (164, .iadd), (165, .iaload), (166, .aload_n 0), (167, .iload_n 3), (168, .iconst 2), (169, .iadd), (170, .iaload), (171, .aload_n 0), (172, .iload_n 3), (173, .iconst 3), (174, .iadd), (175, .iaload), (176, .aload_n 0), (177, .iload_n 3), (178, .iconst 4), (179, .iadd), (180, .iaload), (181, .aload_n 0), (182, .iload_n 3), (183, .iconst 5), (184, .iadd), (185, .iaload), (186, .invokevirtual 13), (189, .aload_n 2), (190, .aload_n 0), (191, .iload_n 3), (192, .iconst 1), (193, .iadd), (194, .iaload), (195, .aload_n 0), (196, .iload_n 3), (197, .iconst 2), (198, .iadd), (199, .iaload), (200, .aload_n 0), (201, .iload_n 3), (202, .iconst 3), (203, .iadd), (204, .iaload), (205, .aload_n 0), (206, .iload_n 3), (207, .iconst 4), (208, .iadd), (209, .iaload), (210, .aload_n 0), (211, .iload_n 3), (212, .iconst 5), (213, .iadd), (214, .iaload), (215, .invokevirtual 17), (218, .if_icmp .eq 1113), (221, .iconst 0), (222, .ireturn), (223, .aload_n 1), (224, .aload_n 0), (225, .iload_n 3), (226, .iconst 1), (227, .iadd), (228, .iaload), (229, .invokevirtual 18), (232, .aload_n 2), (233, .aload_n 0), (234, .iload_n 3), (235, .iconst 1), (236, .iadd), (237, .iaload), (238, .invokevirtual 22), (241, .if_icmp .eq 1090), (244, .iconst 0), (245, .ireturn), (246, .aload_n 1), (247, .invokevirtual 23), (250, .aload_n 2), (251, .invokevirtual 27), (254, .if_icmp .eq 1077), (257, .iconst 0), (258, .ireturn), (259, .aload_n 1), (260, .invokevirtual 28), (263, .aload_n 2), (264, .invokevirtual 31), (267, .if_icmp .eq 1064), (270, .iconst 0), (271, .ireturn), (272, .aload_n 1), (273, .aload_n 0), (274, .iload_n 3), (275, .iconst 1), (276, .iadd), (277, .iaload), (278, .aload_n 0), (279, .iload_n 3), (280, .iconst 2), (281, .iadd), (282, .iaload), (283, .invokevirtual 32), (286, .aload_n 2), (287, .aload_n 0), (288, .iload_n 3), (289, .iconst 1), (290, .iadd), (291, .iaload), (292, .aload_n 0), (293, .iload_n 3), (294, .iconst 2), (295, .iadd), (296, .iaload), (297, .invokevirtual 36), (300, .if_icmp .eq 1031), (303, .iconst 0), (304, .ireturn), (305, .aload_n 1), (306, .aload_n 0), (307, .iload_n 3), (308, .iconst 1), (309, .iadd), (310, .iaload), (311, .aload_n 0), (312, .iload_n 3), (313, .iconst 2), (314, .iadd), (315, .iaload), (316, .aload_n 0), (317, .iload_n 3), (318, .iconst 3), (319, .iadd), (320, .iaload), (321, .ifCond .eq 7), (324, .iconst 1), (325, .goto 4), (328, .iconst 0), (329, .invokevirtual 37), (332, .aload_n 2), (333, .aload_n 0), (334, .iload_n 3), (335, .iconst 1), (336, .iadd), (337, .iaload), (338, .aload_n 0), (339, .iload_n 3), (340, .iconst 2), (341, .iadd), (342, .iaload), (343, .aload_n 0), (344, .iload_n 3), (345, .iconst 3), (346, .iadd), (347, .iaload), (348, .ifCond .eq 7), (351, .iconst 1), (352, .goto 4), (355, .iconst 0), (356, .invokevirtual 41), (359, .if_icmp .eq 972), (362, .iconst 0), (363, .ireturn), (364, .aload_n 1), (365, .invokevirtual 42), (368, .aload_n 2), (369, .invokevirtual 46), (372, .if_icmp .eq 959), (375, .iconst 0), (376, .ireturn), (377, .aload_n 1), (378, .invokevirtual 47), (381, .aload_n 2), (382, .invokevirtual 50), (385, .if_icmp .eq 946), (388, .iconst 0), (389, .ireturn), (390, .aload_n 1), (391, .aload_n 0), (392, .iload_n 3), (393, .iconst 1), (394, .iadd), (395, .iaload), (396, .aload_n 0), (397, .iload_n 3), (398, .iconst 2), (399, .iadd), (400, .iaload), (401, .aload_n 0), (402, .iload_n 3), (403, .iconst 3), (404, .iadd), (405, .iaload), (406, .aload_n 0), (407, .iload_n 3), (408, .iconst 4), (409, .iadd), (410, .iaload), (411, .invokevirtual 51), (414, .aload_n 2), (415, .aload_n 0), (416, .iload_n 3), (417, .iconst 1), (418, .iadd), (419, .iaload), (420, .aload_n 0), (421, .iload_n 3), (422, .iconst 2), (423, .iadd), (424, .iaload), (425, .aload_n 0), (426, .iload_n 3), (427, .iconst 3), (428, .iadd), (429, .iaload), (430, .aload_n 0), (431, .iload_n 3), (432, .iconst 4), (433, .iadd), (434, .iaload), (435, .invokevirtual 55), (438, .if_icmp .eq 893), (441, .iconst 0), (442, .ireturn), (443, .aload_n 1), (444, .aload_n 0), (445, .iload_n 3), (446, .iconst 1), (447, .iadd), (448, .iaload), (449, .aload_n 0), (450, .iload_n 3), (451, .iconst 2), (452, .iadd), (453, .iaload), (454, .aload_n 0), (455, .iload_n 3), (456, .iconst 3), (457, .iadd), (458, .iaload), (459, .aload_n 0), (460, .iload_n 3), (461, .iconst 4), (462, .iadd), (463, .iaload), (464, .aload_n 0), (465, .iload_n 3), (466, .iconst 5), (467, .iadd), (468, .iaload), (469, .invokevirtual 56), (472, .aload_n 2), (473, .aload_n 0), (474, .iload_n 3), (475, .iconst 1), (476, .iadd), (477, .iaload), (478, .aload_n 0), (479, .iload_n 3), (480, .iconst 2), (481, .iadd), (482, .iaload), (483, .aload_n 0), (484, .iload_n 3), (485, .iconst 3), (486, .iadd), (487, .iaload), (488, .aload_n 0), (489, .iload_n 3), (490, .iconst 4), (491, .iadd), (492, .iaload), (493, .aload_n 0), (494, .iload_n 3), (495, .iconst 5), (496, .iadd), (497, .iaload), (498, .invokevirtual 59), (501, .if_icmp .eq 830), (504, .iconst 0), (505, .ireturn), (506, .aload_n 1), (507, .aload_n 0), (508, .iload_n 3), (509, .iconst 1), (510, .iadd), (511, .iaload), (512, .aload_n 0), (513, .iload_n 3), (514, .iconst 2), (515, .iadd), (516, .iaload), (517, .aload_n 0), (518, .iload_n 3), (519, .iconst 3), (520, .iadd), (521, .iaload), (522, .aload_n 0), (523, .iload_n 3), (524, .iconst 4), (525, .iadd), (526, .iaload), (527, .aload_n 0), (528, .iload_n 3), (529, .iconst 5), (530, .iadd), (531, .iaload), (532, .invokevirtual 60), (535, .aload_n 2), (536, .aload_n 0), (537, .iload_n 3), (538, .iconst 1), (539, .iadd), (540, .iaload), (541, .aload_n 0), (542, .iload_n 3), (543, .iconst 2), (544, .iadd), (545, .iaload), (546, .aload_n 0), (547, .iload_n 3), (548, .iconst 3), (549, .iadd), (550, .iaload), (551, .aload_n 0), (552, .iload_n 3), (553, .iconst 4), (554, .iadd), (555, .iaload), (556, .aload_n 0), (557, .iload_n 3), (558, .iconst 5), (559, .iadd), (560, .iaload), (561, .invokevirtual 63), (564, .if_icmp .eq 767), (567, .iconst 0), (568, .ireturn), (569, .aload_n 1), (570, .aload_n 0), (571, .iload_n 3), (572, .iconst 1), (573, .iadd), (574, .iaload), (575, .aload_n 0), (576, .iload_n 3), (577, .iconst 2), (578, .iadd), (579, .iaload), (580, .aload_n 0), (581, .iload_n 3), (582, .iconst 3), (583, .iadd), (584, .iaload), (585, .invokevirtual 64), (588, .aload_n 2), (589, .aload_n 0), (590, .iload_n 3), (591, .iconst 1), (592, .iadd), (593, .iaload), (594, .aload_n 0), (595, .iload_n 3), (596, .iconst 2), (597, .iadd), (598, .iaload), (599, .aload_n 0), (600, .iload_n 3), (601, .iconst 3), (602, .iadd), (603, .iaload), (604, .invokevirtual 68), (607, .if_icmp .eq 724), (610, .iconst 0), (611, .ireturn), (612, .aload_n 1), (613, .aload_n 0), (614, .iload_n 3), (615, .iconst 1), (616, .iadd), (617, .iaload), (618, .aload_n 0), (619, .iload_n 3), (620, .iconst 2), (621, .iadd), (622, .iaload), (623, .aload_n 0), (624, .iload_n 3), (625, .iconst 3), (626, .iadd), (627, .iaload), (628, .aload_n 0), (629, .iload_n 3), (630, .iconst 4), (631, .iadd), (632, .iaload), (633, .aload_n 0), (634, .iload_n 3), (635, .iconst 5), (636, .iadd), (637, .iaload), (638, .invokevirtual 69), (641, .aload_n 2), (642, .aload_n 0), (643, .iload_n 3), (644, .iconst 1), (645, .iadd), (646, .iaload), (647, .aload_n 0), (648, .iload_n 3), (649, .iconst 2), (650, .iadd), (651, .iaload), (652, .aload_n 0), (653, .iload_n 3), (654, .iconst 3), (655, .iadd), (656, .iaload), (657, .aload_n 0), (658, .iload_n 3), (659, .iconst 4), (660, .iadd), (661, .iaload), (662, .aload_n 0), (663, .iload_n 3), (664, .iconst 5), (665, .iadd), (666, .iaload), (667, .invokevirtual 72), (670, .if_icmp .eq 661), (673, .iconst 0), (674, .ireturn), (675, .aload_n 1), (676, .aload_n 0), (677, .iload_n 3), (678, .iconst 1), (679, .iadd), (680, .iaload), (681, .aload_n 0), (682, .iload_n 3), (683, .iconst 2), (684, .iadd), (685, .iaload), (686, .aload_n 0), (687, .iload_n 3), (688, .iconst 3), (689, .iadd), (690, .iaload), (691, .aload_n 0), (692, .iload_n 3), (693, .iconst 4), (694, .iadd), (695, .iaload), (696, .invokevirtual 73), (699, .aload_n 2), (700, .aload_n 0), (701, .iload_n 3), (702, .iconst 1), (703, .iadd), (704, .iaload), (705, .aload_n 0), (706, .iload_n 3), (707, .iconst 2), (708, .iadd), (709, .iaload), (710, .aload_n 0), (711, .iload_n 3), (712, .iconst 3), (713, .iadd), (714, .iaload), (715, .aload_n 0), (716, .iload_n 3), (717, .iconst 4), (718, .iadd), (719, .iaload), (720, .invokevirtual 76), (723, .if_icmp .eq 608), (726, .iconst 0), (727, .ireturn), (728, .aload_n 1), (729, .aload_n 0), (730, .iload_n 3), (731, .iconst 1), (732, .iadd), (733, .iaload), (734, .aload_n 0), (735, .iload_n 3), (736, .iconst 2), (737, .iadd), (738, .iaload), (739, .aload_n 0), (740, .iload_n 3), (741, .iconst 3), (742, .iadd), (743, .iaload), (744, .aload_n 0), (745, .iload_n 3), (746, .iconst 4), (747, .iadd), (748, .iaload), (749, .invokevirtual 77), (752, .aload_n 2), (753, .aload_n 0), (754, .iload_n 3), (755, .iconst 1), (756, .iadd), (757, .iaload), (758, .aload_n 0), (759, .iload_n 3), (760, .iconst 2), (761, .iadd), (762, .iaload), (763, .aload_n 0), (764, .iload_n 3), (765, .iconst 3), (766, .iadd), (767, .iaload), (768, .aload_n 0), (769, .iload_n 3), (770, .iconst 4), (771, .iadd), (772, .iaload), (773, .invokevirtual 80), (776, .if_icmp .eq 555), (779, .iconst 0), (780, .ireturn), (781, .aload_n 1), (782, .aload_n 0), (783, .iload_n 3), (784, .iconst 1), (785, .iadd), (786, .iaload), (787, .aload_n 0), (788, .iload_n 3), (789, .iconst 2), (790, .iadd), (791, .iaload), (792, .aload_n 0), (793, .iload_n 3), (794, .iconst 3), (795, .iadd), (796, .iaload), (797, .aload_n 0), (798, .iload_n 3), (799, .iconst 4), (800, .iadd), (801, .iaload), (802, .invokevirtual 81), (805, .aload_n 2), (806, .aload_n 0), (807, .iload_n 3), (808, .iconst 1), (809, .iadd), (810, .iaload), (811, .aload_n 0), (812, .iload_n 3), (813, .iconst 2), (814, .iadd), (815, .iaload), (816, .aload_n 0), (817, .iload_n 3), (818, .iconst 3), (819, .iadd), (820, .iaload), (821, .aload_n 0), (822, .iload_n 3), (823, .iconst 4), (824, .iadd), (825, .iaload), (826, .invokevirtual 84), (829, .if_icmp .eq 502), (832, .iconst 0), (833, .ireturn), (834, .aload_n 1), (835, .aload_n 0), (836, .iload_n 3), (837, .iconst 1), (838, .iadd), (839, .iaload), (840, .aload_n 0), (841, .iload_n 3), (842, .iconst 2), (843, .iadd), (844, .iaload), (845, .aload_n 0), (846, .iload_n 3), (847, .iconst 3), (848, .iadd), (849, .iaload), (850, .aload_n 0), (851, .iload_n 3), (852, .iconst 4), (853, .iadd), (854, .iaload), (855, .aload_n 0), (856, .iload_n 3), (857, .iconst 5), (858, .iadd), (859, .iaload), (860, .invokevirtual 85), (863, .aload_n 2), (864, .aload_n 0), (865, .iload_n 3), (866, .iconst 1), (867, .iadd), (868, .iaload), (869, .aload_n 0), (870, .iload_n 3), (871, .iconst 2), (872, .iadd), (873, .iaload), (874, .aload_n 0), (875, .iload_n 3), (876, .iconst 3), (877, .iadd), (878, .iaload), (879, .aload_n 0), (880, .iload_n 3), (881, .iconst 4), (882, .iadd), (883, .iaload), (884, .aload_n 0), (885, .iload_n 3), (886, .iconst 5), (887, .iadd), (888, .iaload), (889, .invokevirtual 88), (892, .if_icmp .eq 439), (895, .iconst 0), (896, .ireturn), (897, .aload_n 1), (898, .aload_n 0), (899, .iload_n 3), (900, .iconst 1), (901, .iadd), (902, .iaload), (903, .aload_n 0), (904, .iload_n 3), (905, .iconst 2), (906, .iadd), (907, .iaload), (908, .aload_n 0), (909, .iload_n 3), (910, .iconst 3), (911, .iadd), (912, .iaload), (913, .aload_n 0), (914, .iload_n 3), (915, .iconst 4), (916, .iadd), (917, .iaload), (918, .invokevirtual 89), (921, .aload_n 2), (922, .aload_n 0), (923, .iload_n 3), (924, .iconst 1), (925, .iadd), (926, .iaload), (927, .aload_n 0), (928, .iload_n 3), (929, .iconst 2), (930, .iadd), (931, .iaload), (932, .aload_n 0), (933, .iload_n 3), (934, .iconst 3), (935, .iadd), (936, .iaload), (937, .aload_n 0), (938, .iload_n 3), (939, .iconst 4), (940, .iadd), (941, .iaload), (942, .invokevirtual 92), (945, .if_icmp .eq 386), (948, .iconst 0), (949, .ireturn), (950, .aload_n 1), (951, .aload_n 0), (952, .iload_n 3), (953, .iconst 1), (954, .iadd), (955, .iaload), (956, .aload_n 0), (957, .iload_n 3), (958, .iconst 2), (959, .iadd), (960, .iaload), (961, .aload_n 0), (962, .iload_n 3), (963, .iconst 3), (964, .iadd), (965, .iaload), (966, .aload_n 0), (967, .iload_n 3), (968, .iconst 4), (969, .iadd), (970, .iaload), (971, .aload_n 0), (972, .iload_n 3), (973, .iconst 5), (974, .iadd), (975, .iaload), (976, .invokevirtual 93), (979, .aload_n 2), (980, .aload_n 0), (981, .iload_n 3), (982, .iconst 1), (983, .iadd), (984, .iaload), (985, .aload_n 0), (986, .iload_n 3), (987, .iconst 2), (988, .iadd), (989, .iaload), (990, .aload_n 0), (991, .iload_n 3), (992, .iconst 3), (993, .iadd), (994, .iaload), (995, .aload_n 0), (996, .iload_n 3), (997, .iconst 4), (998, .iadd), (999, .iaload), (1000, .aload_n 0), (1001, .iload_n 3), (1002, .iconst 5), (1003, .iadd), (1004, .iaload), (1005, .invokevirtual 96), (1008, .if_icmp .eq 323), (1011, .iconst 0), (1012, .ireturn), (1013, .aload_n 1), (1014, .aload_n 0), (1015, .iload_n 3), (1016, .iconst 1), (1017, .iadd), (1018, .iaload), (1019, .invokevirtual 97), (1022, .aload_n 2), (1023, .aload_n 0), (1024, .iload_n 3), (1025, .iconst 1), (1026, .iadd), (1027, .iaload), (1028, .invokevirtual 100), (1031, .if_icmp .eq 300), (1034, .iconst 0), (1035, .ireturn), (1036, .aload_n 1), (1037, .aload_n 0), (1038, .iload_n 3), (1039, .iconst 1), (1040, .iadd), (1041, .iaload), (1042, .aload_n 0), (1043, .iload_n 3), (1044, .iconst 2), (1045, .iadd), (1046, .iaload), (1047, .aload_n 0), (1048, .iload_n 3), (1049, .iconst 3), (1050, .iadd), (1051, .iaload), (1052, .aload_n 0), (1053, .iload_n 3), (1054, .iconst 4), (1055, .iadd), (1056, .iaload), (1057, .invokevirtual 101), (1060, .aload_n 2), (1061, .aload_n 0), (1062, .iload_n 3), (1063, .iconst 1), (1064, .iadd), (1065, .iaload), (1066, .aload_n 0), (1067, .iload_n 3), (1068, .iconst 2), (1069, .iadd), (1070, .iaload), (1071, .aload_n 0), (1072, .iload_n 3), (1073, .iconst 3), (1074, .iadd), (1075, .iaload), (1076, .aload_n 0), (1077, .iload_n 3), (1078, .iconst 4), (1079, .iadd), (1080, .iaload), (1081, .invokevirtual 104), (1084, .if_icmp .eq 247), (1087, .iconst 0), (1088, .ireturn), (1089, .aload_n 1), (1090, .aload_n 0), (1091, .iload_n 3), (1092, .iconst 1), (1093, .iadd), (1094, .iaload), (1095, .aload_n 0), (1096, .iload_n 3), (1097, .iconst 2), (1098, .iadd), (1099, .iaload), (1100, .aload_n 0), (1101, .iload_n 3), (1102, .iconst 3), (1103, .iadd), (1104, .iaload), (1105, .aload_n 0), (1106, .iload_n 3), (1107, .iconst 4), (1108, .iadd), (1109, .iaload), (1110, .aload_n 0), (1111, .iload_n 3), (1112, .iconst 5), (1113, .iadd), (1114, .iaload), (1115, .invokevirtual 105), (1118, .aload_n 2), (1119, .aload_n 0), (1120, .iload_n 3), (1121, .iconst 1), (1122, .iadd), (1123, .iaload), (1124, .aload_n 0), (1125, .iload_n 3), (1126, .iconst 2), (1127, .iadd), (1128, .iaload), (1129, .aload_n 0), (1130, .iload_n 3), (1131, .iconst 3), (1132, .iadd), (1133, .iaload), (1134, .aload_n 0), (1135, .iload_n 3), (1136, .iconst 4), (1137, .iadd), (1138, .iaload), (1139, .aload_n 0), (1140, .iload_n 3), (1141, .iconst 5), (1142, .iadd), (1143, .iaload), (1144, .invokevirtual 109), (1147, .lcmp), (1148, .ifCond .eq 183), (1151, .iconst 0), (1152, .ireturn), (1153, .aload_n 1), (1154, .aload_n 0), (1155, .iload_n 3), (1156, .iconst 1), (1157, .iadd), (1158, .iaload), (1159, .aload_n 0), (1160, .iload_n 3), (1161, .iconst 2), (1162, .iadd), (1163, .iaload), (1164, .invokevirtual 110), (1167, .aload_n 2), (1168, .aload_n 0), (1169, .iload_n 3), (1170, .iconst 1), (1171, .iadd), (1172, .iaload), (1173, .aload_n 0), (1174, .iload_n 3), (1175, .iconst 2), (1176, .iadd), (1177, .iaload), (1178, .invokevirtual 114), (1181, .if_icmp .eq 150), (1184, .iconst 0), (1185, .ireturn), (1186, .aload_n 1), (1187, .aload_n 0), (1188, .iload_n 3), (1189, .iconst 1), (1190, .iadd), (1191, .iaload), (1192, .aload_n 0), (1193, .iload_n 3), (1194, .iconst 2), (1195, .iadd), (1196, .iaload), (1197, .aload_n 0), (1198, .iload_n 3), (1199, .iconst 3), (1200, .iadd), (1201, .iaload), (1202, .invokevirtual 115), (1205, .aload_n 2), (1206, .aload_n 0), (1207, .iload_n 3), (1208, .iconst 1), (1209, .iadd), (1210, .iaload), (1211, .aload_n 0), (1212, .iload_n 3), (1213, .iconst 2), (1214, .iadd), (1215, .iaload), (1216, .aload_n 0), (1217, .iload_n 3), (1218, .iconst 3), (1219, .iadd), (1220, .iaload), (1221, .invokevirtual 118), (1224, .if_icmp .eq 107), (1227, .iconst 0), (1228, .ireturn), (1229, .aload_n 1), (1230, .aload_n 0), (1231, .iload_n 3), (1232, .iconst 1), (1233, .iadd), (1234, .iaload), (1235, .aload_n 0), (1236, .iload_n 3), (1237, .iconst 2), (1238, .iadd), (1239, .iaload), (1240, .invokevirtual 119), (1243, .aload_n 2), (1244, .aload_n 0), (1245, .iload_n 3), (1246, .iconst 1), (1247, .iadd), (1248, .iaload), (1249, .aload_n 0), (1250, .iload_n 3), (1251, .iconst 2), (1252, .iadd), (1253, .iaload), (1254, .invokevirtual 122), (1257, .if_icmp .eq 74), (1260, .iconst 0), (1261, .ireturn), (1262, .aload_n 1), (1263, .aload_n 0), (1264, .iload_n 3), (1265, .iconst 1), (1266, .iadd), (1267, .iaload), (1268, .invokevirtual 123), (1271, .aload_n 2), (1272, .aload_n 0), (1273, .iload_n 3), (1274, .iconst 1), (1275, .iadd), (1276, .iaload), (1277, .invokevirtual 127), (1280, .if_icmp .eq 51), (1283, .iconst 0), (1284, .ireturn), (1285, .aload_n 1), (1286, .aload_n 0), (1287, .iload_n 3), (1288, .iconst 1), (1289, .iadd), (1290, .iaload), (1291, .invokevirtual 128), (1294, .aload_n 2), (1295, .aload_n 0), (1296, .iload_n 3), (1297, .iconst 1), (1298, .iadd), (1299, .iaload), (1300, .invokevirtual 131), (1303, .if_icmp .eq 28), (1306, .iconst 0), (1307, .ireturn), (1308, .aload_n 1), (1309, .aload_n 0), (1310, .iload_n 3), (1311, .iconst 1), (1312, .iadd), (1313, .iaload), (1314, .invokevirtual 132), (1317, .aload_n 2), (1318, .aload_n 0), (1319, .iload_n 3), (1320, .iconst 1), (1321, .iadd), (1322, .iaload), (1323, .invokevirtual 135), (1326, .if_icmp .eq 5), (1329, .iconst 0), (1330, .ireturn), (1331, .iinc 3 6), (1334, .goto (-1316)), (1337, .iconst 1), (1338, .ireturn)]
def jm_prog : List (List (Nat × Instr)) := [jm_c0, jm_c1, jm_c2, jm_c3, jm_c4, jm_c5, jm_c6, jm_c7, jm_c8, jm_c9, jm_c10, jm_c11, jm_c12, jm_c13, jm_c14, jm_c15, jm_c16, jm_c17, jm_c18, jm_c19, jm_c20, jm_c21, jm_c22, jm_c23, jm_c24, jm_c25, jm_c26, jm_c27, jm_c28, jm_c29, jm_c30, jm_c31, jm_c32, jm_c33, jm_c34, jm_c35, jm_c36, jm_c37, jm_c38, jm_c39, jm_c40, jm_c41, jm_c42, jm_c43, jm_c44, jm_c45, jm_c46, jm_c47, jm_c48, jm_c49, jm_c50, jm_c51, jm_c52, jm_c53, jm_c54, jm_c55, jm_c56, jm_c57, jm_c58, jm_c59, jm_c60, jm_c61, jm_c62, jm_c63, jm_c64, jm_c65, jm_c66, jm_c67, jm_c68, jm_c69, jm_c70, jm_c71, jm_c72, jm_c73, jm_c74, jm_c75, jm_c76, jm_c77, jm_c78, jm_c79, jm_c80, jm_c81, jm_c82, jm_c83, jm_c84, jm_c85, jm_c86, jm_c87, jm_c88, jm_c89, jm_c90, jm_c91, jm_c92, jm_c93, jm_c94, jm_c95, jm_c96, jm_c97, jm_c98, jm_c99, jm_c100, jm_c101, jm_c102, jm_c103, jm_c104, jm_c105, jm_c106, jm_c107, jm_c108, jm_c109, jm_c110, jm_c111, jm_c112, jm_c113, jm_c114, jm_c115, jm_c116, jm_c117, jm_c118, jm_c119, jm_c120, jm_c121, jm_c122, jm_c123, jm_c124, jm_c125, jm_c126, jm_c127, jm_c128, jm_c129, jm_c130, jm_c131, jm_c132, jm_c133, jm_c134, jm_c135, jm_c136, jm_c137, jm_c138, jm_c139, jm_c140, jm_c141, jm_c142, jm_c143, jm_c144, jm_c145, jm_c146, jm_c147, jm_c148, jm_c149, jm_c150, jm_c151, jm_c152, jm_c153, jm_c154, jm_c155, jm_c156, jm_c157, jm_c158, jm_c159, jm_c160, jm_c161, jm_c162, jm_c163, jm_c164, jm_c165, jm_c166, jm_c167, jm_c168, jm_c169, jm_c170, jm_c171, jm_c172, jm_c173, jm_c174, jm_c175, jm_c176, jm_c177, jm_c178, jm_c179, jm_c180, jm_c181, jm_c182, jm_c183, jm_c184, jm_c185, jm_c186, jm_c187, jm_c188, jm_c189, jm_c190, jm_c191, jm_c192, jm_c193, jm_c194, jm_c195, jm_c196, jm_c197, jm_c198, jm_c199, jm_c200, jm_c201, jm_c202, jm_c203, jm_c204, jm_c205, jm_c206, jm_c207, jm_c208, jm_c209, jm_c210, jm_c211, jm_c212, jm_c213, jm_c214, jm_c215, jm_c216, jm_c217, jm_c218, jm_c219, jm_c220, jm_c221, jm_c222, jm_c223, jm_c224, jm_c225, jm_c226, jm_c227, jm_c228, jm_c229, jm_c230, jm_c231, jm_c232, jm_c233, jm_c234, jm_c235, jm_c236, jm_c237, jm_c238, jm_c239, jm_c240, jm_c241, jm_c242, jm_c243, jm_c244, jm_c245, jm_c246, jm_c247, jm_c248, jm_c249, jm_c250, jm_c251, jm_c252, jm_c253, jm_c254, jm_c255]
/-- links: pool number, kind, a, b, a constant, places of the words -/
def jm_k0 : List (Nat × (Nat × Nat × Nat × Int) × List Nat) := [(3, (5, 0, 0, 0), [366]), (9, (0, 0, 0, 0), [367]), (15, (0, 0, 1, 0), [368]), (19, (0, 2, 1, 0), [278]), (25, (2, 120, 0, 0), [917, 919, 34, 107]), (29, (0, 2, 2, 0), [284]), (32, (0, 2, 4, 0), [293]), (35, (1, 57, 0, 0), [921, 653, 114]), (41, (1, 74, 0, 0), [922, 718, 114]), (44, (0, 2, 3, 0), [288]), (48, (2, 121, 0, 0), [923, 925, 35, 107]), (52, (9, 0, 0, 10), [927])]
def jm_k1 : List (Nat × (Nat × Nat × Nat × Int) × List Nat) := [(3, (5, 0, 0, 0), [129]), (9, (6, 8, 2, 0), [130, 131, 100]), (11, (4, 2, 0, 0), [132, 133, 100]), (12, (0, 1, 0, 0), [180]), (18, (0, 1, 1, 0), [182]), (22, (6, 9, 6, 0), [146, 147, 101]), (24, (4, 3, 0, 0), [148, 149, 101]), (25, (0, 1, 2, 0), [183]), (29, (2, 18, 0, 0), [499, 501, 0, 99]), (32, (2, 28, 0, 0), [542, 544, 4, 99]), (36, (2, 30, 0, 0), [550, 552, 6, 99]), (40, (0, 9, 4, 0), [161]), (44, (0, 9, 5, 0), [163]), (47, (0, 1, 5, 0), [188]), (50, (2, 32, 0, 0), [558, 560, 8, 99]), (53, (2, 29, 0, 0), [546, 548, 5, 99]), (57, (0, 1, 11, 0), [194]), (60, (0, 1, 12, 0), [195]), (63, (0, 1, 13, 0), [196]), (66, (0, 1, 3, 0), [185]), (69, (0, 9, 2, 0), [158]), (72, (0, 9, 3, 0), [159]), (75, (0, 1, 4, 0), [187]), (78, (0, 1, 8, 0), [191]), (81, (0, 1, 9, 0), [192]), (84, (0, 1, 10, 0), [193]), (87, (2, 19, 0, 0), [503, 505, 1, 99]), (90, (0, 8, 1, 0), [139]), (91, (2, 20, 0, 0), [507, 508, 509, 100]), (95, (1, 21, 0, 0), [511, 512, 99]), (98, (0, 1, 6, 0), [189]), (100, (1, 22, 0, 0), [514, 515, 99]), (103, (2, 23, 0, 0), [517, 519, 2, 99]), (106, (1, 25, 0, 0), [530, 531, 99]), (109, (2, 26, 0, 0), [533, 535, 3, 99]), (112, (1, 27, 0, 0), [539, 540, 99]), (115, (0, 1, 7, 0), [190]), (119, (9, 0, 0, 32), [521]), (121, (9, 0, 0, 97), [522]), (123, (1, 24, 0, 0), [523, 524, 99]), (127, (9, 0, 0, 10), [537]), (129, (9, 0, 0, 48), [538]), (131, (9, 0, 0, 632645), [526]), (133, (9, 0, 0, 12468), [527]), (135, (9, 0, 0, 605684), [528]), (137, (9, 0, 0, 20141), [529]), (139, (2, 31, 0, 0), [554, 556, 7, 99]), (143, (2, 33, 0, 0), [562, 564, 9, 99]), (146, (2, 34, 0, 0), [566, 568, 10, 99]), (149, (2, 37, 0, 0), [578, 579, 580, 101]), (152, (2, 35, 0, 0), [570, 572, 11, 99]), (155, (2, 36, 0, 0), [574, 576, 12, 99]), (158, (2, 38, 0, 0), [582, 584, 13, 99]), (161, (2, 39, 0, 0), [586, 588, 14, 99]), (164, (2, 40, 0, 0), [590, 592, 15, 99])]
def jm_k2 : List (Nat × (Nat × Nat × Nat × Int) × List Nat) := [(3, (5, 0, 0, 0), [243]), (9, (6, 4, 5, 0), [244, 245, 105]), (11, (4, 7, 0, 0), [246, 247, 105]), (12, (0, 2, 0, 0), [275]), (18, (2, 48, 0, 0), [620, 621, 622, 104]), (22, (0, 2, 1, 0), [277]), (26, (0, 2, 2, 0), [283]), (30, (0, 2, 3, 0), [287]), (34, (0, 2, 4, 0), [292]), (37, (1, 46, 0, 0), [614, 615, 113]), (43, (1, 47, 0, 0), [617, 618, 114]), (49, (1, 69, 0, 0), [699, 700, 105]), (53, (2, 70, 0, 0), [702, 703, 704, 104]), (56, (1, 71, 0, 0), [706, 707, 105]), (60, (2, 72, 0, 0), [710, 711, 712, 105]), (64, (0, 4, 1, 0), [252]), (67, (0, 4, 2, 0), [255]), (70, (0, 4, 3, 0), [258]), (73, (0, 4, 4, 0), [261]), (76, (1, 75, 0, 0), [720, 721, 115]), (82, (1, 54, 0, 0), [642, 643, 115]), (85, (1, 57, 0, 0), [652, 653, 114]), (88, (1, 53, 0, 0), [639, 640, 104]), (91, (1, 56, 0, 0), [649, 650, 104]), (95, (2, 59, 0, 0), [874, 660, 661, 104]), (99, (8, 0, 0, 2000000000), [875]), (100, (9, 0, 0, 3), [876]), (102, (9, 0, 0, 2), [877]), (104, (9, 0, 0, 2000000000), [878]), (106, (1, 110, 0, 0), [879, 880, 114]), (109, (1, 74, 0, 0), [949, 718, 114]), (112, (2, 128, 0, 0), [954, 956, 38, 104]), (115, (2, 126, 0, 0), [945, 947, 37, 104]), (119, (2, 125, 0, 0), [941, 943, 36, 104]), (123, (2, 127, 0, 0), [950, 951, 952, 104])]
def jm_k3 : List (Nat × (Nat × Nat × Nat × Int) × List Nat) := [(3, (5, 0, 0, 0), [237]), (9, (6, 2, 5, 0), [238, 239, 104]), (11, (4, 6, 0, 0), [240, 241, 104]), (12, (0, 3, 0, 0), [308]), (18, (0, 3, 1, 0), [309]), (21, (0, 3, 2, 0), [310]), (24, (2, 68, 0, 0), [695, 696, 697, 104]), (28, (2, 88, 0, 0), [780, 782, 28, 103]), (31, (0, 2, 2, 0), [282]), (35, (2, 89, 0, 0), [786, 788, 29, 103]), (38, (2, 90, 0, 0), [790, 792, 30, 103]), (41, (2, 49, 0, 0), [624, 625, 626, 103]), (45, (2, 77, 0, 0), [726, 728, 21, 103]), (48, (2, 45, 0, 0), [610, 611, 612, 104]), (52, (0, 2, 4, 0), [295]), (55, (2, 51, 0, 0), [631, 632, 633, 104]), (59, (0, 2, 1, 0), [280]), (63, (2, 70, 0, 0), [730, 703, 704, 104]), (66, (2, 59, 0, 0), [659, 660, 661, 104]), (70, (0, 2, 3, 0), [290]), (74, (1, 53, 0, 0), [667, 640, 104]), (78, (1, 56, 0, 0), [784, 650, 104]), (82, (1, 47, 0, 0), [785, 618, 114]), (88, (2, 48, 0, 0), [734, 621, 622, 104]), (92, (1, 78, 0, 0), [731, 732, 103]), (95, (0, 3, 3, 0), [311]), (98, (1, 50, 0, 0), [628, 629, 105]), (103, (2, 52, 0, 0), [635, 636, 637, 104]), (106, (2, 58, 0, 0), [655, 657, 17, 103]), (110, (1, 64, 0, 0), [679, 680, 105]), (113, (1, 60, 0, 0), [663, 664, 105]), (116, (1, 61, 0, 0), [668, 669, 103]), (120, (1, 62, 0, 0), [672, 673, 103]), (123, (2, 63, 0, 0), [675, 677, 18, 103]), (127, (9, 0, 0, 2), [671])]
def jm_k4 : List (Nat × (Nat × Nat × Nat × Int) × List Nat) := [(1, (5, 0, 0, 0), [249]), (7, (1, 93, 0, 0), [827, 803, 105]), (13, (1, 99, 0, 0), [900, 825, 105]), (17, (1, 50, 0, 0), [666, 629, 105]), (21, (1, 64, 0, 0), [709, 680, 105]), (25, (1, 73, 0, 0), [714, 715, 105]), (28, (0, 4, 0, 0), [250]), (32, (0, 4, 1, 0), [253]), (35, (1, 74, 0, 0), [717, 718, 114]), (40, (0, 4, 2, 0), [256]), (43, (0, 4, 3, 0), [259]), (46, (0, 4, 4, 0), [262])]
def jm_k5 : List (Nat × (Nat × Nat × Nat × Int) × List Nat) := [(1, (5, 0, 0, 0), [405]), (7, (6, 6, 3, 0), [406, 378, 108]), (9, (4, 10, 0, 0), [407, 380, 108]), (10, (0, 5, 0, 0), [410]), (16, (6, 8, 2, 0), [408, 131, 100]), (18, (4, 2, 0, 0), [409, 133, 100]), (19, (0, 5, 1, 0), [412])]
def jm_k6 : List (Nat × (Nat × Nat × Nat × Int) × List Nat) := [(1, (5, 0, 0, 0), [382]), (7, (6, 7, 3, 0), [383, 323, 106]), (9, (4, 8, 0, 0), [384, 325, 106]), (10, (0, 6, 0, 0), [385]), (16, (0, 6, 1, 0), [387]), (20, (0, 6, 2, 0), [389]), (23, (2, 97, 0, 0), [816, 817, 818, 106])]
def jm_k7 : List (Nat × (Nat × Nat × Nat × Int) × List Nat) := [(3, (5, 0, 0, 0), [327]), (9, (0, 7, 0, 0), [328]), (13, (0, 7, 1, 0), [329]), (17, (0, 7, 2, 0), [330]), (20, (2, 84, 0, 0), [761, 763, 25, 106]), (24, (0, 2, 1, 0), [279]), (27, (0, 2, 2, 0), [285]), (31, (0, 2, 3, 0), [289]), (35, (0, 2, 4, 0), [294]), (38, (2, 81, 0, 0), [745, 747, 23, 106]), (42, (2, 82, 0, 0), [751, 753, 24, 106]), (45, (9, 0, 0, 4294967295), [749]), (47, (1, 74, 0, 0), [750, 718, 114]), (53, (9, 0, 0, -1), [755]), (55, (1, 53, 0, 0), [765, 640, 104]), (59, (2, 85, 0, 0), [766, 768, 26, 106]), (63, (2, 70, 0, 0), [760, 703, 704, 104]), (66, (2, 86, 0, 0), [770, 772, 27, 106]), (70, (2, 48, 0, 0), [774, 621, 622, 104])]
def jm_k8 : List (Nat × (Nat × Nat × Nat × Int) × List Nat) := [(3, (5, 0, 0, 0), [135]), (9, (0, 8, 0, 0), [136]), (15, (0, 8, 1, 0), [138]), (19, (1, 57, 0, 0), [854, 653, 114])]
def jm_k9 : List (Nat × (Nat × Nat × Nat × Int) × List Nat) := [(3, (5, 0, 0, 0), [151]), (9, (0, 9, 0, 0), [152]), (15, (0, 9, 1, 0), [154]), (18, (0, 9, 2, 0), [156])]
def jm_k10 : List (Nat × (Nat × Nat × Nat × Int) × List Nat) := [(3, (5, 0, 0, 0), [231]), (9, (6, 3, 4, 0), [232, 233, 103]), (11, (4, 5, 0, 0), [234, 235, 103]), (12, (0, 10, 0, 0), [341]), (18, (6, 7, 3, 0), [322, 323, 106]), (20, (4, 8, 0, 0), [324, 325, 106]), (21, (0, 10, 1, 0), [343]), (25, (6, 2, 5, 0), [339, 239, 104]), (27, (4, 6, 0, 0), [340, 241, 104]), (28, (0, 10, 2, 0), [344]), (32, (0, 10, 3, 0), [345]), (35, (0, 10, 4, 0), [346]), (39, (0, 10, 5, 0), [347]), (43, (0, 9, 2, 0), [157]), (48, (0, 9, 0, 0), [153]), (51, (0, 9, 1, 0), [155]), (54, (2, 44, 0, 0), [606, 607, 608, 103]), (58, (2, 65, 0, 0), [682, 684, 19, 102]), (62, (2, 66, 0, 0), [686, 688, 20, 102]), (66, (1, 64, 0, 0), [690, 680, 105]), (72, (2, 67, 0, 0), [691, 692, 693, 103]), (75, (2, 79, 0, 0), [735, 737, 22, 102]), (79, (2, 87, 0, 0), [776, 777, 778, 103]), (83, (2, 42, 0, 0), [739, 599, 600, 106]), (86, (2, 68, 0, 0), [740, 696, 697, 104]), (89, (2, 80, 0, 0), [741, 742, 743, 106]), (93, (2, 83, 0, 0), [756, 757, 758, 106]), (97, (2, 49, 0, 0), [775, 625, 626, 103])]
def jm_k11 : List (Nat × (Nat × Nat × Nat × Int) × List Nat) := [(1, (5, 0, 0, 0), [121]), (7, (6, 1, 14, 0), [124, 125, 99]), (9, (4, 1, 0, 0), [126, 127, 99]), (10, (0, 11, 1, 0), [428]), (16, (0, 1, 0, 0), [181]), (20, (0, 11, 0, 0), [427]), (21, (6, 10, 6, 0), [226, 227, 102]), (23, (4, 4, 0, 0), [228, 229, 102]), (24, (0, 11, 2, 0), [429]), (28, (0, 10, 0, 0), [342]), (32, (0, 11, 3, 0), [430]), (33, (6, 0, 2, 0), [361, 362, 107]), (35, (4, 9, 0, 0), [363, 364, 107]), (36, (0, 11, 4, 0), [431]), (40, (6, 2, 5, 0), [375, 239, 104]), (42, (4, 6, 0, 0), [376, 241, 104]), (43, (0, 11, 5, 0), [432]), (47, (0, 11, 6, 0), [433]), (50, (6, 6, 3, 0), [377, 378, 108]), (52, (4, 10, 0, 0), [379, 380, 108]), (53, (0, 11, 7, 0), [434]), (57, (0, 11, 8, 0), [435]), (61, (6, 5, 3, 0), [399, 401, 109]), (63, (0, 11, 9, 0), [436]), (67, (4, 11, 0, 0), [402, 403, 109]), (68, (0, 11, 10, 0), [437]), (72, (0, 11, 11, 0), [438]), (75, (0, 11, 12, 0), [439]), (78, (1, 12, 0, 0), [422, 423, 110]), (84, (6, 9, 6, 0), [425, 147, 101]), (86, (4, 3, 0, 0), [426, 149, 101]), (87, (0, 11, 13, 0), [440]), (91, (0, 11, 16, 0), [443]), (95, (0, 8, 1, 0), [137]), (100, (2, 14, 0, 0), [483, 484, 485, 100]), (104, (2, 17, 0, 0), [495, 496, 497, 99]), (108, (0, 1, 3, 0), [186]), (111, (2, 41, 0, 0), [594, 596, 16, 98]), (114, (0, 6, 1, 0), [388]), (117, (0, 6, 2, 0), [390]), (120, (2, 43, 0, 0), [602, 603, 604, 102]), (124, (0, 1, 2, 0), [184]), (125, (0, 9, 4, 0), [162]), (126, (0, 9, 5, 0), [164]), (127, (0, 6, 0, 0), [386]), (131, (2, 42, 0, 0), [598, 599, 600, 106]), (136, (0, 11, 15, 0), [442]), (139, (0, 5, 2, 0), [414]), (143, (1, 93, 0, 0), [802, 803, 105]), (149, (2, 94, 0, 0), [805, 807, 31, 98]), (152, (1, 99, 0, 0), [824, 825, 105]), (156, (2, 68, 0, 0), [828, 696, 697, 104]), (160, (2, 80, 0, 0), [829, 742, 743, 106]), (164, (0, 7, 2, 0), [331]), (167, (2, 101, 0, 0), [834, 835, 836, 106]), (170, (0, 11, 14, 0), [441]), (173, (1, 95, 0, 0), [809, 810, 114]), (179, (2, 103, 0, 0), [842, 844, 32, 98]), (183, (2, 96, 0, 0), [812, 813, 814, 108]), (186, (0, 5, 0, 0), [411]), (189, (0, 5, 1, 0), [413]), (190, (2, 105, 0, 0), [850, 851, 852, 100]), (193, (8, 0, 0, -100000), [863]), (194, (1, 64, 0, 0), [864, 680, 105]), (197, (1, 69, 0, 0), [865, 700, 105]), (200, (1, 108, 0, 0), [866, 867, 105]), (203, (1, 46, 0, 0), [869, 615, 113]), (209, (2, 109, 0, 0), [870, 871, 872, 104]), (212, (1, 60, 0, 0), [882, 664, 105]), (215, (1, 111, 0, 0), [883, 884, 105]), (218, (1, 112, 0, 0), [886, 887, 105]), (221, (2, 113, 0, 0), [889, 891, 33, 98]), (225, (0, 2, 0, 0), [276]), (229, (0, 4, 0, 0), [251]), (232, (0, 4, 1, 0), [254]), (235, (0, 4, 2, 0), [257]), (238, (0, 4, 3, 0), [260]), (241, (0, 4, 4, 0), [263]), (244, (0, 2, 3, 0), [291]), (248, (0, 2, 4, 0), [296]), (251, (1, 115, 0, 0), [897, 898, 105]), (255, (1, 116, 0, 0), [901, 902, 113]), (258, (1, 74, 0, 0), [908, 718, 114]), (261, (2, 119, 0, 0), [913, 914, 915, 107]), (265, (0, 0, 1, 0), [369]), (266, (2, 122, 0, 0), [928, 929, 930, 107]), (269, (9, 0, 0, -1000000000000000), [936]), (271, (2, 124, 0, 0), [937, 938, 939, 104]), (274, (2, 127, 0, 0), [958, 951, 952, 104]), (278, (2, 87, 0, 0), [963, 777, 778, 103]), (284, (0, 3, 3, 0), [312]), (287, (2, 67, 0, 0), [972, 692, 693, 103]), (291, (2, 49, 0, 0), [977, 625, 626, 103]), (295, (1, 134, 0, 0), [982, 983, 98]), (299, (2, 135, 0, 0), [987, 988, 989, 103]), (302, (8, 0, 0, -1000000), [985]), (303, (8, 0, 0, 1000000), [986]), (304, (2, 137, 0, 0), [995, 996, 997, 103]), (307, (2, 139, 0, 0), [1003, 1005, 39, 98]), (310, (2, 140, 0, 0), [1007, 1008, 1009, 103]), (313, (1, 142, 0, 0), [1015, 1016, 105]), (316, (2, 144, 0, 0), [1022, 1024, 40, 98]), (319, (2, 146, 0, 0), [1030, 1031, 1032, 106]), (322, (2, 83, 0, 0), [1038, 757, 758, 106]), (325, (0, 9, 3, 0), [160]), (327, (0, 2, 1, 0), [281]), (328, (0, 2, 2, 0), [286]), (330, (2, 150, 0, 0), [1047, 1049, 41, 98]), (333, (2, 151, 0, 0), [1051, 1053, 42, 98]), (336, (2, 152, 0, 0), [1055, 1057, 43, 98]), (339, (2, 153, 0, 0), [1059, 1060, 1061, 106])]
def jm_k12 : List (Nat × (Nat × Nat × Nat × Int) × List Nat) := [(7, (5, 0, 0, 0), [1068]), (13, (0, 12, 1, 0), [1076]), (17, (0, 12, 3, 0), [1078]), (20, (0, 12, 5, 0), [1080]), (24, (0, 12, 6, 0), [1081]), (27, (0, 12, 7, 0), [1082]), (30, (0, 12, 8, 0), [1083]), (34, (0, 12, 9, 0), [1084]), (37, (0, 12, 16, 0), [1091]), (40, (0, 12, 17, 0), [1092]), (43, (0, 12, 19, 0), [1094]), (46, (0, 12, 20, 0), [1095]), (49, (0, 12, 22, 0), [1097]), (52, (0, 12, 23, 0), [1098]), (55, (0, 12, 24, 0), [1099]), (58, (0, 12, 26, 0), [1101]), (61, (0, 12, 27, 0), [1102]), (64, (0, 12, 28, 0), [1103]), (67, (0, 12, 32, 0), [1107]), (70, (0, 12, 33, 0), [1108]), (73, (0, 12, 34, 0), [1109]), (76, (0, 12, 35, 0), [1110]), (79, (0, 12, 37, 0), [1112]), (82, (0, 12, 38, 0), [1113]), (85, (0, 12, 41, 0), [1116]), (88, (0, 12, 42, 0), [1117]), (92, (0, 12, 50, 0), [1125]), (95, (0, 12, 51, 0), [1126]), (98, (0, 12, 59, 0), [1134]), (101, (0, 12, 61, 0), [1136]), (104, (1, 155, 0, 0), [1069, 1070, 111]), (108, (0, 12, 2, 0), [1077]), (111, (2, 158, 0, 0), [1267, 1269, 44, 111]), (115, (0, 12, 4, 0), [1079]), (118, (9, 0, 0, 27), [1075]), (120, (1, 156, 0, 0), [1072, 1073, 111]), (124, (0, 12, 10, 0), [1085]), (127, (2, 162, 0, 0), [1283, 1285, 46, 111]), (131, (2, 163, 0, 0), [1287, 1289, 47, 111]), (135, (1, 164, 0, 0), [1291, 1292, 111]), (139, (1, 165, 0, 0), [1294, 1295, 111]), (142, (2, 166, 0, 0), [1297, 1299, 48, 111]), (146, (1, 167, 0, 0), [1301, 1302, 111]), (149, (0, 12, 12, 0), [1087]), (152, (0, 12, 11, 0), [1086]), (155, (0, 12, 13, 0), [1088]), (158, (0, 12, 14, 0), [1089]), (161, (0, 12, 15, 0), [1090]), (164, (2, 171, 0, 0), [1316, 1318, 52, 111]), (167, (2, 169, 0, 0), [1308, 1310, 50, 111]), (170, (2, 170, 0, 0), [1312, 1314, 51, 111]), (173, (2, 161, 0, 0), [1279, 1281, 45, 111]), (176, (0, 12, 18, 0), [1093]), (179, (2, 168, 0, 0), [1304, 1306, 49, 111]), (182, (2, 172, 0, 0), [1320, 1322, 53, 111]), (185, (2, 175, 0, 0), [1332, 1334, 56, 111]), (188, (2, 185, 0, 0), [1370, 1372, 64, 111]), (191, (0, 12, 29, 0), [1104]), (194, (0, 12, 21, 0), [1096]), (197, (0, 12, 30, 0), [1105]), (200, (0, 12, 25, 0), [1100]), (203, (2, 186, 0, 0), [1374, 1376, 65, 111]), (206, (0, 12, 40, 0), [1115]), (209, (2, 173, 0, 0), [1324, 1326, 54, 111]), (212, (0, 12, 31, 0), [1106]), (215, (2, 174, 0, 0), [1328, 1330, 55, 111]), (218, (1, 176, 0, 0), [1336, 1337, 111]), (222, (2, 177, 0, 0), [1339, 1341, 57, 111]), (226, (2, 178, 0, 0), [1343, 1345, 58, 111]), (229, (0, 12, 36, 0), [1111]), (232, (1, 184, 0, 0), [1367, 1368, 111]), (235, (2, 181, 0, 0), [1355, 1357, 61, 111]), (238, (2, 179, 0, 0), [1347, 1349, 59, 111]), (242, (2, 180, 0, 0), [1351, 1353, 60, 111]), (246, (2, 183, 0, 0), [1363, 1365, 63, 111]), (249, (2, 182, 0, 0), [1359, 1361, 62, 111]), (252, (2, 187, 0, 0), [1378, 1380, 66, 111]), (256, (2, 188, 0, 0), [1382, 1384, 67, 111]), (259, (1, 194, 0, 0), [1405, 1406, 111]), (262, (2, 201, 0, 0), [1428, 1430, 73, 111]), (265, (2, 202, 0, 0), [1432, 1434, 74, 111]), (269, (2, 209, 0, 0), [1459, 1461, 79, 111]), (273, (2, 203, 0, 0), [1436, 1438, 75, 111]), (276, (1, 204, 0, 0), [1440, 1441, 111]), (280, (1, 191, 0, 0), [1394, 1395, 111]), (283, (2, 205, 0, 0), [1443, 1445, 76, 111]), (287, (2, 208, 0, 0), [1455, 1457, 78, 111]), (290, (1, 217, 0, 0), [1491, 1492, 111]), (293, (0, 12, 39, 0), [1114]), (296, (2, 213, 0, 0), [1475, 1477, 81, 111]), (299, (2, 218, 0, 0), [1494, 1496, 82, 111]), (302, (1, 220, 0, 0), [1502, 1503, 111]), (305, (2, 221, 0, 0), [1505, 1507, 83, 111]), (308, (0, 12, 52, 0), [1127]), (310, (1, 195, 0, 0), [1408, 1409, 111]), (313, (0, 12, 43, 0), [1118]), (316, (0, 12, 44, 0), [1119]), (319, (0, 12, 46, 0), [1121]), (322, (0, 12, 45, 0), [1120]), (325, (0, 12, 47, 0), [1122]), (328, (0, 12, 48, 0), [1123]), (331, (0, 12, 49, 0), [1124]), (334, (9, 0, 0, 65535), [1420]), (336, (1, 198, 0, 0), [1417, 1418, 111]), (340, (8, 0, 0, 65535), [1454]), (341, (1, 199, 0, 0), [1421, 1422, 111]), (345, (2, 193, 0, 0), [1401, 1403, 71, 111]), (348, (1, 206, 0, 0), [1447, 1448, 111]), (351, (2, 207, 0, 0), [1450, 1452, 77, 111]), (355, (1, 197, 0, 0), [1414, 1415, 111]), (358, (0, 12, 53, 0), [1128]), (361, (0, 12, 54, 0), [1129]), (365, (0, 12, 55, 0), [1130]), (368, (0, 12, 56, 0), [1131]), (371, (0, 12, 57, 0), [1132]), (374, (1, 196, 0, 0), [1411, 1412, 111]), (377, (2, 192, 0, 0), [1397, 1399, 70, 111]), (380, (0, 12, 58, 0), [1133]), (383, (2, 190, 0, 0), [1390, 1392, 69, 111]), (386, (2, 200, 0, 0), [1424, 1426, 72, 111]), (389, (2, 189, 0, 0), [1386, 1388, 68, 111]), (393, (2, 210, 0, 0), [1463, 1465, 80, 111]), (397, (2, 227, 0, 0), [1529, 1531, 84, 111]), (401, (8, 0, 0, -1000000), [1537]), (402, (8, 0, 0, 1000000), [1538]), (403, (1, 231, 0, 0), [1547, 1548, 111]), (406, (9, 0, 0, 2), [1563]), (408, (9, 0, 0, 2000000000), [1564]), (410, (8, 0, 0, -100000), [1558]), (411, (2, 234, 0, 0), [1559, 1561, 85, 111]), (414, (2, 235, 0, 0), [1565, 1567, 86, 111]), (417, (2, 236, 0, 0), [1569, 1571, 87, 111]), (420, (0, 12, 60, 0), [1135]), (423, (9, 0, 0, 9), [1589]), (425, (9, 0, 0, 10), [1590]), (427, (2, 239, 0, 0), [1581, 1583, 89, 111]), (430, (2, 240, 0, 0), [1585, 1587, 90, 111]), (434, (2, 238, 0, 0), [1577, 1579, 88, 111]), (437, (2, 242, 0, 0), [1595, 1597, 91, 111]), (440, (9, 0, 0, -1000000000000000), [1607]), (442, (2, 245, 0, 0), [1608, 1610, 92, 111]), (446, (9, 0, 0, 2000000001), [1648]), (448, (9, 0, 0, 65536), [1649]), (450, (8, 0, 0, 32768), [1650]), (451, (2, 251, 0, 0), [1632, 1634, 93, 111]), (455, (2, 252, 0, 0), [1636, 1638, 94, 111]), (458, (2, 253, 0, 0), [1640, 1642, 95, 111]), (461, (2, 254, 0, 0), [1644, 1646, 96, 111])]
def jm_k13 : List (Nat × (Nat × Nat × Nat × Int) × List Nat) := [(264, (8, 0, 0, 65536), [648])]
def jm_k14 : List (Nat × (Nat × Nat × Nat × Int) × List Nat) := [(308, (1, 55, 0, 0), [645, 646, 113]), (311, (1, 76, 0, 0), [723, 724, 113])]
def jm_k15 : List (Nat × (Nat × Nat × Nat × Int) × List Nat) := []
def jm_k16 : List (Nat × (Nat × Nat × Nat × Int) × List Nat) := []
def jm_k17 : List (Nat × (Nat × Nat × Nat × Int) × List Nat) := [(7, (6, 11, 17, 0), [116, 117, 98]), (9, (3, 0, 0, 0), [118, 119, 98]), (10, (6, 12, 62, 0), [1063, 1064, 111]), (12, (3, 154, 0, 0), [1065, 1066, 111]), (13, (2, 13, 0, 0), [479, 480, 481, 98]), (17, (2, 157, 0, 0), [1263, 1264, 1265, 111]), (18, (2, 15, 0, 0), [487, 488, 489, 98]), (22, (2, 159, 0, 0), [1271, 1272, 1273, 111]), (23, (2, 16, 0, 0), [491, 492, 493, 98]), (27, (2, 160, 0, 0), [1275, 1276, 1277, 111]), (28, (2, 91, 0, 0), [794, 795, 796, 98]), (31, (2, 211, 0, 0), [1467, 1468, 1469, 111]), (32, (2, 92, 0, 0), [798, 799, 800, 98]), (36, (2, 216, 0, 0), [1487, 1488, 1489, 111]), (37, (2, 98, 0, 0), [820, 821, 822, 98]), (41, (2, 219, 0, 0), [1498, 1499, 1500, 111]), (42, (2, 100, 0, 0), [830, 831, 832, 98]), (46, (2, 222, 0, 0), [1509, 1510, 1511, 111]), (47, (2, 102, 0, 0), [838, 839, 840, 98]), (50, (2, 212, 0, 0), [1471, 1472, 1473, 111]), (51, (2, 107, 0, 0), [859, 860, 861, 98]), (55, (2, 233, 0, 0), [1554, 1555, 1556, 111]), (56, (2, 129, 0, 0), [959, 960, 961, 98]), (59, (2, 223, 0, 0), [1513, 1514, 1515, 111]), (60, (2, 130, 0, 0), [964, 965, 966, 98]), (63, (2, 224, 0, 0), [1517, 1518, 1519, 111]), (64, (2, 131, 0, 0), [968, 969, 970, 98]), (68, (2, 225, 0, 0), [1521, 1522, 1523, 111]), (69, (2, 132, 0, 0), [973, 974, 975, 98]), (72, (2, 226, 0, 0), [1525, 1526, 1527, 111]), (73, (2, 133, 0, 0), [978, 979, 980, 98]), (76, (2, 228, 0, 0), [1533, 1534, 1535, 111]), (77, (2, 114, 0, 0), [893, 894, 895, 98]), (80, (2, 230, 0, 0), [1543, 1544, 1545, 111]), (81, (2, 117, 0, 0), [904, 905, 906, 98]), (84, (2, 232, 0, 0), [1550, 1551, 1552, 111]), (85, (2, 136, 0, 0), [991, 992, 993, 98]), (88, (2, 229, 0, 0), [1539, 1540, 1541, 111]), (89, (2, 118, 0, 0), [909, 910, 911, 98]), (92, (2, 237, 0, 0), [1573, 1574, 1575, 111]), (93, (2, 138, 0, 0), [999, 1000, 1001, 98]), (96, (2, 241, 0, 0), [1591, 1592, 1593, 111]), (97, (2, 145, 0, 0), [1026, 1027, 1028, 98]), (100, (2, 246, 0, 0), [1612, 1613, 1614, 111]), (101, (2, 141, 0, 0), [1011, 1012, 1013, 98]), (104, (2, 243, 0, 0), [1599, 1600, 1601, 111]), (105, (2, 123, 0, 0), [932, 933, 934, 98]), (109, (2, 244, 0, 0), [1603, 1604, 1605, 111]), (110, (2, 147, 0, 0), [1034, 1035, 1036, 98]), (114, (2, 247, 0, 0), [1616, 1617, 1618, 111]), (115, (2, 143, 0, 0), [1018, 1019, 1020, 98]), (118, (2, 248, 0, 0), [1620, 1621, 1622, 111]), (119, (2, 148, 0, 0), [1039, 1040, 1041, 98]), (122, (2, 249, 0, 0), [1624, 1625, 1626, 111]), (123, (2, 104, 0, 0), [846, 847, 848, 98]), (127, (2, 214, 0, 0), [1479, 1480, 1481, 111]), (128, (2, 106, 0, 0), [855, 856, 857, 98]), (131, (2, 215, 0, 0), [1483, 1484, 1485, 111]), (132, (2, 149, 0, 0), [1043, 1044, 1045, 98]), (135, (2, 250, 0, 0), [1628, 1629, 1630, 111])]
def jm_ks : List (List (Nat × (Nat × Nat × Nat × Int) × List Nat)) := [jm_k0, jm_k1, jm_k2, jm_k3, jm_k4, jm_k5, jm_k6, jm_k7, jm_k8, jm_k9, jm_k10, jm_k11, jm_k12, jm_k13, jm_k14, jm_k15, jm_k16, jm_k17]
def jm_own : List String := ["TaperedNumbers$Decimals", "TaperedNumbers$Reader", "TaperedNumbers$Real", "TaperedNumbers$Rounder", "TaperedNumbers$Row", "TaperedNumbers$Slot", "TaperedNumbers$State", "TaperedNumbers$Sum", "TaperedNumbers$Tape", "TaperedNumbers$Text", "TaperedNumbers$Worker", "TaperedNumbers", "TaperedNumbersModel", "java/lang/Integer", "java/lang/Long", "java/lang/Math", "java/util/Arrays", "TaperedNumbersLaw"]
def jm_TY : List (Nat → FieldType) := [tyX0, tyX1, tyX2, tyX3, tyX4, tyX5, tyX6, tyX7, tyX8, tyX9, tyX10, tyX11, tyX12]
def jm_lp : List (List Nat) := [[370, 372], [197, 199, 201, 203, 205, 207, 209, 211, 213, 215, 217, 219, 221, 223], [297, 299, 301, 303, 305], [313, 315, 317, 319], [264, 266, 268, 270, 272], [415, 417, 419], [391, 393, 395], [332, 334, 336], [140, 142], [165, 167, 169, 171, 173, 175], [348, 350, 352, 354, 356, 358], [444, 446, 448, 450, 452, 454, 456, 458, 460, 462, 464, 466, 468, 470, 472, 474, 476], [1137, 1139, 1141, 1143, 1145, 1147, 1149, 1151, 1153, 1155, 1157, 1159, 1161, 1163, 1165, 1167, 1169, 1171, 1173, 1175, 1177, 1179, 1181, 1183, 1185, 1187, 1189, 1191, 1193, 1195, 1197, 1199, 1201, 1203, 1205, 1207, 1209, 1211, 1213, 1215, 1217, 1219, 1221, 1223, 1225, 1227, 1229, 1231, 1233, 1235, 1237, 1239, 1241, 1243, 1245, 1247, 1249, 1251, 1253, 1255, 1257, 1259]]
/-- places of: code of Object.<init>; array classes of int, long, byte, boolean; arrays over State, Slot; instantiable of each class -/
def jm_op : List Nat := [123, 122, 179, 178, 145, 1262, 398, 400]
def jm_ip : List Nat := [362, 125, 239, 233, 245, 401, 378, 323, 131, 147, 227, 117, 1064]
end
section
/-! An interpreter of the bytecode over an abstract heap: objects by number (1: the script, 2, 3 ..: in the order in which they are made), three maps for ints, longs and references, one for kinds, one for lengths. -/
abbrev jm_H : Type := (Nat × Nat) × (Nat → Nat) × (Nat → Nat) × (Nat → Nat → Int32) × (Nat → Nat → Int64) × (Nat → Nat → Nat)
def jm_n (H : jm_H) : Nat := H.1.1
def jm_s (H : jm_H) : Nat := H.1.2
def jm_tg (H : jm_H) : Nat → Nat := H.2.1
def jm_ln (H : jm_H) : Nat → Nat := H.2.2.1
def jm_I (H : jm_H) : Nat → Nat → Int32 := H.2.2.2.1
def jm_L (H : jm_H) : Nat → Nat → Int64 := H.2.2.2.2.1
def jm_R (H : jm_H) : Nat → Nat → Nat := H.2.2.2.2.2
def jm_u1 {α : Type} (f : Nat → α) (a : Nat) (v : α) : Nat → α := fun b => cond (Nat.beq b a) v (f b)
def jm_u2 {α : Type} (f : Nat → Nat → α) (a k : Nat) (v : α) : Nat → Nat → α := fun b j => cond (Nat.beq b a && Nat.beq j k) v (f b j)
def jm_u0 {α : Type} (f : Nat → Nat → α) (a : Nat) (v : α) : Nat → Nat → α := fun b j => cond (Nat.beq b a) v (f b j)
def jm_pI (H : jm_H) (a k : Nat) (v : Int32) : jm_H := (H.1, H.2.1, H.2.2.1, jm_u2 H.2.2.2.1 a k v, H.2.2.2.2.1, H.2.2.2.2.2)
def jm_pL (H : jm_H) (a k : Nat) (v : Int64) : jm_H := (H.1, H.2.1, H.2.2.1, H.2.2.2.1, jm_u2 H.2.2.2.2.1 a k v, H.2.2.2.2.2)
def jm_pR (H : jm_H) (a k : Nat) (v : Nat) : jm_H := (H.1, H.2.1, H.2.2.1, H.2.2.2.1, H.2.2.2.2.1, jm_u2 H.2.2.2.2.2 a k v)
/-- a new object: kind t, length len, sl slots -/
def jm_mk (H : jm_H) (t len sl : Nat) : jm_H := ((H.1.1 + 1, H.1.2 + sl), jm_u1 H.2.1 (H.1.1 + 2) t, jm_u1 H.2.2.1 (H.1.1 + 2) len, jm_u0 H.2.2.2.1 (H.1.1 + 2) 0, jm_u0 H.2.2.2.2.1 (H.1.1 + 2) 0, jm_u0 H.2.2.2.2.2 (H.1.1 + 2) 0)
def jm_in (i : Int32) (n : Nat) : Prop := ¬ (i < 0 ∨ n ≤ i.toNatClampNeg)
def jm_v2 : Value → Bool
  | .long _ => true
  | .double _ => true
  | _ => false
/-! the instructions that work on the stack alone -/
def jm_alu (ins : Instr) (st : List Value) : Option (List Value) := match ins with
  | .iconst n => some (.int (Int32.ofInt n) :: st)
  | .bipush n => some (.int (Int8.ofInt n).toInt32 :: st)
  | .sipush n => some (.int (Int16.ofInt n).toInt32 :: st)
  | .lconst n => some (.long (Int64.ofNat n) :: st)
  | .iadd => match st with | .int y :: .int x :: r => some (.int (x + y) :: r) | _ => none
  | .isub => match st with | .int y :: .int x :: r => some (.int (x - y) :: r) | _ => none
  | .imul => match st with | .int y :: .int x :: r => some (.int (x * y) :: r) | _ => none
  | .iand => match st with | .int y :: .int x :: r => some (.int (x &&& y) :: r) | _ => none
  | .ior => match st with | .int y :: .int x :: r => some (.int (x ||| y) :: r) | _ => none
  | .ixor => match st with | .int y :: .int x :: r => some (.int (x ^^^ y) :: r) | _ => none
  | .idiv => match st with | .int y :: .int x :: r => if y = 0 then none else some (.int (x / y) :: r) | _ => none
  | .irem => match st with | .int y :: .int x :: r => if y = 0 then none else some (.int (x - x / y * y) :: r) | _ => none
  | .ineg => match st with | .int x :: r => some (.int (-x) :: r) | _ => none
  | .ishl => match st with | .int y :: .int x :: r => some (.int (x <<< (y &&& 31)) :: r) | _ => none
  | .ishr => match st with | .int y :: .int x :: r => some (.int (x >>> (y &&& 31)) :: r) | _ => none
  | .iushr => match st with | .int y :: .int x :: r => some (.int (x.toUInt32 >>> (y.toUInt32 &&& Int32.toUInt32 31)).toInt32 :: r) | _ => none
  | .ladd => match st with | .long y :: .long x :: r => some (.long (x + y) :: r) | _ => none
  | .lsub => match st with | .long y :: .long x :: r => some (.long (x - y) :: r) | _ => none
  | .lmul => match st with | .long y :: .long x :: r => some (.long (x * y) :: r) | _ => none
  | .land => match st with | .long y :: .long x :: r => some (.long (x &&& y) :: r) | _ => none
  | .lor => match st with | .long y :: .long x :: r => some (.long (x ||| y) :: r) | _ => none
  | .lxor => match st with | .long y :: .long x :: r => some (.long (x ^^^ y) :: r) | _ => none
  | .ldiv => match st with | .long y :: .long x :: r => if y = 0 then none else some (.long (x / y) :: r) | _ => none
  | .lrem => match st with | .long y :: .long x :: r => if y = 0 then none else some (.long (x - x / y * y) :: r) | _ => none
  | .lneg => match st with | .long x :: r => some (.long (-x) :: r) | _ => none
  | .lshl => match st with | .int y :: .long x :: r => some (.long (x <<< (y.toInt64 &&& 63)) :: r) | _ => none
  | .lshr => match st with | .int y :: .long x :: r => some (.long (x >>> (y.toInt64 &&& 63)) :: r) | _ => none
  | .lushr => match st with | .int y :: .long x :: r => some (.long (x.toUInt64 >>> (y.toInt64.toUInt64 &&& Int64.toUInt64 63)).toInt64 :: r) | _ => none
  | .lcmp => match st with | .long y :: .long x :: r => some (.int (lg_cmp x y) :: r) | _ => none
  | .i2l => match st with | .int x :: r => some (.long x.toInt64 :: r) | _ => none
  | .l2i => match st with | .long x :: r => some (.int x.toInt32 :: r) | _ => none
  | .i2b => match st with | .int x :: r => some (.int x.toInt8.toInt32 :: r) | _ => none
  | .dup => match st with | v :: r => if jm_v2 v then none else some (v :: v :: r) | _ => none
  | .pop => match st with | v :: r => if jm_v2 v then none else some r | _ => none
  | .dup_x1 => match st with | v :: w :: r => if jm_v2 v || jm_v2 w then none else some (v :: w :: v :: r) | _ => none
  | .dup2 => match st with | v :: w :: r => if jm_v2 v || jm_v2 w then none else some (v :: w :: v :: w :: r) | _ => none
  | _ => none
/-! loads and stores; .null among the locals: nothing is known there -/
def jm_ld (ls : List Value) (st : List Value) (t : Nat) (i : Nat) : Option (List Value × List Value) := match t, ls[i]? with
  | 0, some (.int x) => some (ls, .int x :: st)
  | 1, some (.long x) => some (ls, .long x :: st)
  | 2, some (.ref x) => some (ls, .ref x :: st)
  | _, _ => none
def jm_kl (ls : List Value) (i : Nat) : List Value := match i with
  | 0 => ls
  | k + 1 => if (ls[k]?).any jm_v2 then ls.set k .null else ls
def jm_so (ls : List Value) (st : List Value) (t : Nat) (i : Nat) : Option (List Value × List Value) := match t, st with
  | 0, .int x :: r => if i < ls.length then some ((jm_kl ls i).set i (.int x), r) else none
  | 1, .long x :: r => if i + 1 < ls.length then some (((jm_kl ls i).set i (.long x)).set (i + 1) .null, r) else none
  | 2, .ref x :: r => if i < ls.length then some ((jm_kl ls i).set i (.ref x), r) else none
  | _, _ => none
def jm_loc (ins : Instr) (ls st : List Value) : Option (List Value × List Value) := match ins with
  | .iload i => jm_ld ls st 0 i
  | .iload_n i => jm_ld ls st 0 i
  | .lload i => jm_ld ls st 1 i
  | .lload_n i => jm_ld ls st 1 i
  | .aload i => jm_ld ls st 2 i
  | .aload_n i => jm_ld ls st 2 i
  | .istore i => jm_so ls st 0 i
  | .istore_n i => jm_so ls st 0 i
  | .lstore i => jm_so ls st 1 i
  | .lstore_n i => jm_so ls st 1 i
  | .astore i => jm_so ls st 2 i
  | .astore_n i => jm_so ls st 2 i
  | .iinc i n => match ls[i]? with | some (.int x) => some (ls.set i (.int (x + Int32.ofInt n)), st) | _ => none
  | _ => none
/-! branches -/
def jm_tgt (pc : Nat) (off : Int) : Option Nat := match (pc : Int) + off with
  | .ofNat t => some t
  | .negSucc _ => none
def jm_cz (c : ClassFile.Cond) (x : Int32) : Bool := match c with
  | .eq => decide (x = 0)
  | .ne => decide (¬ x = 0)
  | .lt => decide (x < 0)
  | .ge => decide (0 ≤ x)
  | .gt => decide (0 < x)
  | .le => decide (x ≤ 0)
def jm_cc (c : ClassFile.Cond) (x y : Int32) : Bool := match c with
  | .eq => decide (x = y)
  | .ne => decide (¬ x = y)
  | .lt => decide (x < y)
  | .ge => decide (y ≤ x)
  | .gt => decide (y < x)
  | .le => decide (x ≤ y)
def jm_ps (ps : List (Int × Int)) : Bool := (ps.zip (ps.drop 1)).all (fun (a, next) => a.1 < next.1)
def jm_br (ins : Instr) (pc : Nat) (st : List Value) : Option (Nat × List Value) := match ins with
  | .ifCond c off => match st with | .int x :: r => (match jm_tgt pc off with | some t => some (cond (jm_cz c x) t (pc + 3), r) | none => none) | _ => none
  | .if_icmp c off => match st with | .int y :: .int x :: r => (match jm_tgt pc off with | some t => some (cond (jm_cc c x y) t (pc + 3), r) | none => none) | _ => none
  | .goto off => match jm_tgt pc off with | some t => some (t, st) | none => none
  | .tableswitch d lo hi offs => match st with
    | .int x :: r => if x.toInt < lo ∨ hi < x.toInt then (match jm_tgt pc d with | some t => some (t, r) | none => none) else (match offs[(x.toInt - lo).toNat]? with
      | some off => (match jm_tgt pc off with | some t => some (t, r) | none => none)
      | none => none)
    | _ => none
  | .lookupswitch d ps => match st with
    | .int x :: r => if jm_ps ps.toList then (match jm_tgt pc (Op.lookupswitch.offset ps.toList d x.toInt) with | some t => some (t, r) | none => none) else none
    | _ => none
  | _ => none
/-! the program's tables, read -/
def jm_M (mi : Nat) : jm_Mt := jm_ms.getD mi jm_m0
def jm_y (mi : Nat) : MethodName := (jm_M mi).1
def jm_b (mi : Nat) : ByteArray := (jm_M mi).2.1
def jm_mx (mi : Nat) : Nat := (jm_M mi).2.2.1
def jm_ret (mi : Nat) : Option FieldType := (jm_M mi).2.2.2.1
def jm_ci (mi : Nat) : Nat := (jm_M mi).2.2.2.2.1
def jm_np (mi : Nat) : Nat := (jm_M mi).2.2.2.2.2.1
def jm_r0 (mi : Nat) : Nat := (jm_M mi).2.2.2.2.2.2.1
def jm_rc (mi : Nat) : Nat := (jm_M mi).2.2.2.2.2.2.2.1
def jm_cp (mi : Nat) : Nat := (jm_M mi).2.2.2.2.2.2.2.2
/-- how many frames may lie above: a number of the method, or, where it may come to itself, of its depth -/
def jm_rk (mi : Nat) (as : List Value) : Nat := match jm_rc mi with
  | 0 => jm_r0 mi
  | k + 1 => match as with
    | [_, .int d] => jm_r0 mi + 4 * (9 - d.toNatClampNeg) + (k + 1)
    | _ => jm_r0 mi + 100
def jm_at (mi pc : Nat) : Option Instr := (jm_prog.getD mi []).lookup pc
def jm_rs (ci idx : Nat) : Option (Nat × Nat × Nat × Int) := ((jm_ks.getD ci []).lookup idx).map (fun e => e.1)
def jm_ix (ins : Instr) : Option Nat := match ins with
  | .getfield i => some i
  | .putfield i => some i
  | .invokestatic i => some i
  | .invokevirtual i => some i
  | .invokespecial i => some i
  | .new i => some i
  | .anewarray i => some i
  | .ldc i => some i
  | .ldc_w i => some i
  | .ldc2_w i => some i
  | _ => none
def jm_rv (mi : Nat) (ins : Instr) : Nat × Nat × Nat × Int := match jm_ix ins with
  | some i => (match jm_rs (jm_ci mi) i with | some e => e | none => (99, 0, 0, 0))
  | none => (98, 0, 0, 0)
def jm_ft (ci k : Nat) : Nat := (jm_fts.getD ci []).getD k 9
def jm_nf (ci : Nat) : Nat := (jm_fts.getD ci []).length
def jm_sw (ins : Instr) : Bool := match ins with
  | .tableswitch _ _ _ _ => true
  | .lookupswitch _ _ => true
  | _ => false
def jm_len (ins : Instr) : Nat := match ins with
  | .iload _ => 2
  | .lload _ => 2
  | .aload _ => 2
  | .istore _ => 2
  | .lstore _ => 2
  | .astore _ => 2
  | .iinc _ _ => 3
  | .bipush _ => 2
  | .sipush _ => 3
  | .ldc _ => 2
  | .ldc_w _ => 3
  | .ldc2_w _ => 3
  | .getfield _ => 3
  | .putfield _ => 3
  | .new _ => 3
  | .anewarray _ => 3
  | .newarray _ => 2
  | .invokestatic _ => 3
  | .invokevirtual _ => 3
  | .invokespecial _ => 3
  | .ifCond _ _ => 3
  | .if_icmp _ _ => 3
  | .goto _ => 3
  | _ => 1
def jm_kd (ins : Instr) : Nat := match ins with
  | .iload _ => 1
  | .lload _ => 1
  | .aload _ => 1
  | .istore _ => 1
  | .lstore _ => 1
  | .astore _ => 1
  | .iload_n _ => 1
  | .lload_n _ => 1
  | .aload_n _ => 1
  | .istore_n _ => 1
  | .lstore_n _ => 1
  | .astore_n _ => 1
  | .iinc _ _ => 1
  | .ifCond _ _ => 2
  | .if_icmp _ _ => 2
  | .goto _ => 2
  | .tableswitch _ _ _ _ => 2
  | .lookupswitch _ _ => 2
  | .ldc _ => 3
  | .ldc_w _ => 3
  | .ldc2_w _ => 3
  | .getfield _ => 3
  | .putfield _ => 3
  | .new _ => 3
  | .anewarray _ => 3
  | .newarray _ => 3
  | .arraylength => 3
  | .iaload => 3
  | .laload => 3
  | .baload => 3
  | .aaload => 3
  | .iastore => 3
  | .lastore => 3
  | .bastore => 3
  | .aastore => 3
  | .ireturn => 4
  | .lreturn => 4
  | .return_ => 4
  | .invokestatic _ => 5
  | .invokevirtual _ => 5
  | .invokespecial _ => 5
  | _ => 0
/-! the instructions that read or write the heap; e: the link -/
def jm_gf (a b : Nat) (r : Nat) (q : List Value) (H : jm_H) : Option (List Value × jm_H) := match jm_ft a b with
  | 0 => some (.int (jm_I H r b) :: q, H)
  | 3 => some (.int (jm_I H r b) :: q, H)
  | 1 => some (.long (jm_L H r b) :: q, H)
  | 2 => if jm_R H r b = 0 then none else some (.ref (jm_R H r b) :: q, H)
  | _ => none
def jm_pf (a b : Nat) (st : List Value) (H : jm_H) : Option (List Value × jm_H) := match jm_ft a b, st with
  | 0, .int x :: .ref r :: q => if jm_tg H r = a + 1 then some (q, jm_pI H r b x) else none
  | 3, .int x :: .ref r :: q => if jm_tg H r = a + 1 ∧ (x = 0 ∨ x = 1) then some (q, jm_pI H r b x) else none
  | 1, .long x :: .ref r :: q => if jm_tg H r = a + 1 then some (q, jm_pL H r b x) else none
  | 2, .ref x :: .ref r :: q => if jm_tg H r = a + 1 ∧ ¬ x = 0 then some (q, jm_pR H r b x) else none
  | _, _ => none
def jm_hp (S : Option (Nat × (Nat → Int32))) (ins : Instr) (e : Nat × Nat × Nat × Int) (st : List Value) (H : jm_H) : Option (List Value × jm_H) := match ins with
  | .ldc _ => if e.1 = 8 then some (.int (Int32.ofInt e.2.2.2) :: st, H) else none
  | .ldc_w _ => if e.1 = 8 then some (.int (Int32.ofInt e.2.2.2) :: st, H) else none
  | .ldc2_w _ => if e.1 = 9 then some (.long (Int64.ofInt e.2.2.2) :: st, H) else none
  | .getfield _ => match st with | .ref r :: q => if e.1 = 0 ∧ jm_tg H r = e.2.1 + 1 then jm_gf e.2.1 e.2.2.1 r q H else none | _ => none
  | .putfield _ => if e.1 = 0 then jm_pf e.2.1 e.2.2.1 st H else none
  | .new _ => if e.1 = 6 then some (.ref (jm_n H + 2) :: st, jm_mk H (e.2.1 + 1) 0 e.2.2.1) else none
  | .anewarray _ => match st with | .int n :: q => if e.1 = 7 ∧ ¬ n < 0 ∧ n.toNatClampNeg ≤ 60000000 then some (.ref (jm_n H + 2) :: q, jm_mk H e.2.1 n.toNatClampNeg n.toNatClampNeg) else none | _ => none
  | .newarray t => match st with
    | .int n :: q => if ¬ n < 0 ∧ n.toNatClampNeg ≤ 60000000 then (match t with
      | .int => some (.ref (jm_n H + 2) :: q, jm_mk H 100 n.toNatClampNeg n.toNatClampNeg)
      | .long => some (.ref (jm_n H + 2) :: q, jm_mk H 101 n.toNatClampNeg n.toNatClampNeg)
      | .byte => some (.ref (jm_n H + 2) :: q, jm_mk H 102 n.toNatClampNeg n.toNatClampNeg)
      | .boolean => some (.ref (jm_n H + 2) :: q, jm_mk H 103 n.toNatClampNeg n.toNatClampNeg)
      | _ => none) else none
    | _ => none
  | .arraylength => match st with
    | .ref r :: q => if r = 1 then (match S with | some x => some (.int (Int32.ofNat x.1) :: q, H) | none => none) else if 100 ≤ jm_tg H r then some (.int (Int32.ofNat (jm_ln H r)) :: q, H) else none
    | _ => none
  | .iaload => match st with
    | .int i :: .ref r :: q => if r = 1 then (match S with | some x => if ¬ (i < 0 ∨ x.1 ≤ i.toNatClampNeg) then some (.int (x.2 i.toNatClampNeg) :: q, H) else none | none => none)
        else if jm_tg H r = 100 ∧ ¬ (i < 0 ∨ jm_ln H r ≤ i.toNatClampNeg) then some (.int (jm_I H r i.toNatClampNeg) :: q, H) else none
    | _ => none
  | .laload => match st with
    | .int i :: .ref r :: q => if jm_tg H r = 101 ∧ ¬ (i < 0 ∨ jm_ln H r ≤ i.toNatClampNeg) then some (.long (jm_L H r i.toNatClampNeg) :: q, H) else none
    | _ => none
  | .baload => match st with
    | .int i :: .ref r :: q => if (jm_tg H r = 102 ∨ jm_tg H r = 103) ∧ ¬ (i < 0 ∨ jm_ln H r ≤ i.toNatClampNeg) then some (.int (jm_I H r i.toNatClampNeg) :: q, H) else none
    | _ => none
  | .aaload => match st with
    | .int i :: .ref r :: q => if (jm_tg H r = 104 ∨ jm_tg H r = 105) ∧ ¬ (i < 0 ∨ jm_ln H r ≤ i.toNatClampNeg) ∧ ¬ jm_R H r i.toNatClampNeg = 0 then some (.ref (jm_R H r i.toNatClampNeg) :: q, H) else none
    | _ => none
  | .iastore => match st with
    | .int x :: .int i :: .ref r :: q => if jm_tg H r = 100 ∧ ¬ (i < 0 ∨ jm_ln H r ≤ i.toNatClampNeg) then some (q, jm_pI H r i.toNatClampNeg x) else none
    | _ => none
  | .lastore => match st with
    | .long x :: .int i :: .ref r :: q => if jm_tg H r = 101 ∧ ¬ (i < 0 ∨ jm_ln H r ≤ i.toNatClampNeg) then some (q, jm_pL H r i.toNatClampNeg x) else none
    | _ => none
  | .bastore => match st with
    | .int x :: .int i :: .ref r :: q => if ¬ (i < 0 ∨ jm_ln H r ≤ i.toNatClampNeg) then (if jm_tg H r = 102 then some (q, jm_pI H r i.toNatClampNeg x.toInt8.toInt32) else if jm_tg H r = 103 ∧ (x = 0 ∨ x = 1) then some (q, jm_pI H r i.toNatClampNeg x) else none) else none
    | _ => none
  | .aastore => match st with
    | .ref x :: .int i :: .ref r :: q => if ((jm_tg H r = 104 ∧ jm_tg H x = 7) ∨ (jm_tg H r = 105 ∧ jm_tg H x = 6)) ∧ ¬ (i < 0 ∨ jm_ln H r ≤ i.toNatClampNeg) then some (q, jm_pR H r i.toNatClampNeg x) else none
    | _ => none
  | _ => none
def jm_rt (ret : Option FieldType) (ins : Instr) (st : List Value) : Option (Option Value) := match ins, ret, st with
  | .return_, none, [] => some none
  | .ireturn, some t, [.int v] => if narrow t (.int v) = .int v then some (some (.int v)) else none
  | .lreturn, some .long, [.long v] => some (some (.long v))
  | _, _, _ => none
def jm_cut (st : List Value) (k : Nat) : Option (List Value × List Value) := if st.length < k then none else some ((st.take k).reverse, st.drop k)
def jm_cs (st : List Value) : Nat := (st.map fun v => v.category).sum
/-- a call's arguments, if it is one of the program's own; and the stack below -/
def jm_cl (ins : Instr) (e : Nat × Nat × Nat × Int) (st : List Value) (H : jm_H) : Option (Option (List Value) × List Value) := match ins with
  | .invokestatic _ => if e.1 = 1 then (match jm_cut st (jm_np e.2.1) with | some (as, q) => if jm_cs q ≤ 8 then some (some as, q) else none | none => none) else none
  | .invokevirtual _ => if e.1 = 2 then (match jm_cut st (jm_np e.2.1 + 1) with | some (.ref r :: as, q) => if jm_cs q ≤ 8 ∧ jm_tg H r = jm_ci e.2.1 + 1 then some (some (.ref r :: as), q) else none | _ => none) else none
  | .invokespecial _ => if e.1 = 5 then (match st with | .ref _ :: q => if jm_cs q ≤ 8 then some (none, q) else none | _ => none)
      else if e.1 = 3 ∨ e.1 = 4 then (match jm_cut st (jm_np e.2.1 + 1) with | some (.ref r :: as, q) => if jm_cs q ≤ 8 then some (some (.ref r :: as), q) else none | _ => none) else none
  | _ => none
def jm_en (mi : Nat) (as : List Value) : List Value := let l := as.flatMap (fun v => if jm_v2 v then [v, .null] else [v]); l ++ List.replicate (jm_mx mi - l.length) .null
def jm_ex (S : Option (Nat × (Nat → Int32))) : Nat → Nat → Nat → Nat → List Value → List Value → jm_H → Option (Option Value × jm_H)
  | 0, _, _, _, _, _, _ => none
  | n + 1, D, mi, pc, ls, st, H => match jm_at mi pc with
    | none => none
    | some ins => match jm_kd ins with
      | 0 => (match jm_alu ins st with | none => none | some st' => jm_ex S n D mi (pc + jm_len ins) ls st' H)
      | 1 => (match jm_loc ins ls st with | none => none | some x => jm_ex S n D mi (pc + jm_len ins) x.1 x.2 H)
      | 2 => (match jm_br ins pc st with | none => none | some x => jm_ex S n D mi x.1 ls x.2 H)
      | 3 => (match jm_hp S ins (jm_rv mi ins) st H with | none => none | some x => jm_ex S n D mi (pc + jm_len ins) ls x.1 x.2)
      | 4 => (match jm_rt (jm_ret mi) ins st with | none => none | some r => some (r, H))
      | _ => (match jm_cl ins (jm_rv mi ins) st H with
        | none => none
        | some x => match x.1 with
          | none => jm_ex S n D mi (pc + 3) ls x.2 H
          | some as => if jm_rk (jm_rv mi ins).2.1 as < D then (match jm_ex S n (jm_rk (jm_rv mi ins).2.1 as) (jm_rv mi ins).2.1 0 (jm_en (jm_rv mi ins).2.1 as) [] H with
            | none => none
            | some y => jm_ex S n D mi (pc + 3) ls (y.1.toList ++ x.2) y.2) else none)
end
section
/-! the tables are right: the instructions are the code's, the words of the links stand among the tables' -/
def jm_T (a : Nat) : u_T := (jm_cl0.getD a (RX0, TX0, 2)).2.1
def jm_N (a : Nat) : Nat := (jm_cl0.getD a (RX0, TX0, 2)).2.2
def jm_C (a : Nat) : String := (jm_cl0.getD a (RX0, TX0, 2)).1
def jm_wd (own : String) (idx : Nat) (e : Nat × Nat × Nat × Int) : List Jvm.Cond := match e.1 with
  | 0 => [.fieldLink own idx (jm_T e.2.1 e.2.2.1).1 (jm_T e.2.1 e.2.2.1).2.1 (jm_T e.2.1 e.2.2.1).2.2.1]
  | 1 => [.methodLink own idx (jm_y e.2.1), .static (jm_y e.2.1), .initialized (jm_y e.2.1).cls]
  | 2 => [.methodLink own idx (jm_y e.2.1), .instanceMethod (jm_y e.2.1), .selects (jm_y e.2.1).cls (jm_y e.2.1) (jm_y e.2.1), .initialized (jm_y e.2.1).cls]
  | 3 => [.methodLink own idx (jm_y e.2.1), .instanceMethod (jm_y e.2.1), .initialized (jm_y e.2.1).cls]
  | 4 => [.methodLinkNest own idx (jm_y e.2.1) "TaperedNumbers", .instanceMethod (jm_y e.2.1), .initialized (jm_y e.2.1).cls]
  | 5 => [.methodLink own idx Lib.objectInit]
  | 6 => [.classLink own idx (jm_C e.2.1), .instantiable (jm_C e.2.1) e.2.2.1, .initialized (jm_C e.2.1)]
  | 7 => [.classLink own idx (jm_C e.2.2.1), .arrayOver (.object (jm_C e.2.2.1))]
  | 8 => [.constant own idx (Int32.ofInt e.2.2.2)]
  | 9 => [.constantLong own idx (Int64.ofInt e.2.2.2)]
  | _ => []
def jm_xk (ci : Nat) (x : Nat × (Nat × Nat × Nat × Int) × List Nat) : Bool := decide (x.2.2.map (fun p => lw_tbl[p]?) = (jm_wd (jm_own.getD ci "") x.1 x.2.1).map some) && (match x.2.1.1 with
  | 0 => decide (x.2.1.2.1 < 13) && decide (x.2.1.2.2.1 < jm_N x.2.1.2.1)
  | 1 => decide (x.2.1.2.1 < 255)
  | 2 => decide (x.2.1.2.1 < 255)
  | 3 => decide (x.2.1.2.1 < 255) && decide ((jm_y x.2.1.2.1).name = "<init>") && decide (jm_ret x.2.1.2.1 = none)
  | 4 => decide (x.2.1.2.1 < 255) && decide ((jm_y x.2.1.2.1).name = "<init>") && decide (jm_ret x.2.1.2.1 = none)
  | 5 => true
  | 6 => decide (x.2.1.2.1 < 13) && decide (x.2.1.2.2.1 = jm_N x.2.1.2.1)
  | 7 => (decide (x.2.1.2.1 = 104) && decide (x.2.1.2.2.1 = 6)) || (decide (x.2.1.2.1 = 105) && decide (x.2.1.2.2.1 = 5))
  | 8 => true
  | 9 => true
  | _ => false)
def jm_xi (mi : Nat) (x : Nat × Instr) : Bool := (match decode (jm_b mi) x.1 with
    | .ok (i', l) => decide (i' = x.2) && (jm_sw x.2 || decide (l = jm_len x.2))
    | _ => false) && (match x.2 with
    | .putfield _ => !((jm_fin.getD (jm_rv mi x.2).2.1 []).getD (jm_rv mi x.2).2.2.1 false) || (decide ((jm_y mi).name = "<init>") && decide ((jm_y mi).cls = (jm_T (jm_rv mi x.2).2.1 (jm_rv mi x.2).2.2.1).1))
    | _ => true)
def jm_xc (mi : Nat) : Bool := (jm_prog.getD mi []).all (jm_xi mi)
def jm_xm (mi : Nat) : Bool := decide ((jm_y mi).cls = jm_own.getD (jm_ci mi) "") && decide ((jm_y mi).cls ≠ "java/lang/invoke/MethodHandle" ∧ (jm_y mi).cls ≠ "java/lang/invoke/VarHandle") && decide ((parseMethodDescriptor (jm_y mi).desc).map (fun d => d.parameters.length) = some (jm_np mi)) && plainFor (jm_y mi) && decide (jm_mx mi ≤ 22)
def jm_xp (mi : Nat) : Bool := decide (lw_tbl[jm_cp mi]? = some (.code (jm_y mi) (jm_b mi) (jm_mx mi) (jm_ret mi)))
def jm_xl (ci : Nat) : Bool := decide ((jm_lp.getD ci []).map (fun p => lw_tbl[p]?) = (u_ws (jm_C ci) (jm_T ci) (jm_N ci)).map some) && decide (jm_nf ci = jm_N ci) && decide (lw_tbl[jm_ip.getD ci 0]? = some (.instantiable (jm_C ci) (jm_N ci)))

theorem jm_okm0 : (List.range 16).all (fun i => jm_xm (0 + i)) = true := by decide +kernel
theorem jm_okm1 : (List.range 16).all (fun i => jm_xm (16 + i)) = true := by decide +kernel
theorem jm_okm2 : (List.range 16).all (fun i => jm_xm (32 + i)) = true := by decide +kernel
theorem jm_okm3 : (List.range 16).all (fun i => jm_xm (48 + i)) = true := by decide +kernel
theorem jm_okm4 : (List.range 16).all (fun i => jm_xm (64 + i)) = true := by decide +kernel
theorem jm_okm5 : (List.range 16).all (fun i => jm_xm (80 + i)) = true := by decide +kernel
theorem jm_okm6 : (List.range 16).all (fun i => jm_xm (96 + i)) = true := by decide +kernel
theorem jm_okm7 : (List.range 16).all (fun i => jm_xm (112 + i)) = true := by decide +kernel
theorem jm_okm8 : (List.range 16).all (fun i => jm_xm (128 + i)) = true := by decide +kernel
theorem jm_okm9 : (List.range 16).all (fun i => jm_xm (144 + i)) = true := by decide +kernel
theorem jm_okm10 : (List.range 16).all (fun i => jm_xm (160 + i)) = true := by decide +kernel
theorem jm_okm11 : (List.range 16).all (fun i => jm_xm (176 + i)) = true := by decide +kernel
theorem jm_okm12 : (List.range 16).all (fun i => jm_xm (192 + i)) = true := by decide +kernel
theorem jm_okm13 : (List.range 16).all (fun i => jm_xm (208 + i)) = true := by decide +kernel
theorem jm_okm14 : (List.range 16).all (fun i => jm_xm (224 + i)) = true := by decide +kernel
theorem jm_okm15 : (List.range 16).all (fun i => jm_xm (240 + i)) = true := by decide +kernel
theorem jm_okp0 : (List.range 16).all (fun i => jm_xp (0 + i)) = true := by decide +kernel
theorem jm_okp1 : (List.range 16).all (fun i => jm_xp (16 + i)) = true := by decide +kernel
theorem jm_okp2 : (List.range 16).all (fun i => jm_xp (32 + i)) = true := by decide +kernel
theorem jm_okp3 : (List.range 16).all (fun i => jm_xp (48 + i)) = true := by decide +kernel
theorem jm_okp4 : (List.range 16).all (fun i => jm_xp (64 + i)) = true := by decide +kernel
theorem jm_okp5 : (List.range 16).all (fun i => jm_xp (80 + i)) = true := by decide +kernel
theorem jm_okp6 : (List.range 16).all (fun i => jm_xp (96 + i)) = true := by decide +kernel
theorem jm_okp7 : (List.range 16).all (fun i => jm_xp (112 + i)) = true := by decide +kernel
theorem jm_okp8 : (List.range 16).all (fun i => jm_xp (128 + i)) = true := by decide +kernel
theorem jm_okp9 : (List.range 16).all (fun i => jm_xp (144 + i)) = true := by decide +kernel
theorem jm_okp10 : (List.range 16).all (fun i => jm_xp (160 + i)) = true := by decide +kernel
theorem jm_okp11 : (List.range 16).all (fun i => jm_xp (176 + i)) = true := by decide +kernel
theorem jm_okp12 : (List.range 16).all (fun i => jm_xp (192 + i)) = true := by decide +kernel
theorem jm_okp13 : (List.range 16).all (fun i => jm_xp (208 + i)) = true := by decide +kernel
theorem jm_okp14 : (List.range 16).all (fun i => jm_xp (224 + i)) = true := by decide +kernel
theorem jm_okp15 : (List.range 15).all (fun i => jm_xp (240 + i)) = true := by decide +kernel
theorem jm_okl0 : jm_xl 0 = true := by decide +kernel
theorem jm_okl1 : jm_xl 1 = true := by decide +kernel
theorem jm_okl2 : jm_xl 2 = true := by decide +kernel
theorem jm_okl3 : jm_xl 3 = true := by decide +kernel
theorem jm_okl4 : jm_xl 4 = true := by decide +kernel
theorem jm_okl5 : jm_xl 5 = true := by decide +kernel
theorem jm_okl6 : jm_xl 6 = true := by decide +kernel
theorem jm_okl7 : jm_xl 7 = true := by decide +kernel
theorem jm_okl8 : jm_xl 8 = true := by decide +kernel
theorem jm_okl9 : jm_xl 9 = true := by decide +kernel
theorem jm_okl10 : jm_xl 10 = true := by decide +kernel
theorem jm_okl11 : jm_xl 11 = true := by decide +kernel
theorem jm_okl12 : jm_xl 12 = true := by decide +kernel
end
section
def jm_k0_0 : List (Nat × (Nat × Nat × Nat × Int) × List Nat) := [(3, (5, 0, 0, 0), [366]), (9, (0, 0, 0, 0), [367]), (15, (0, 0, 1, 0), [368]), (19, (0, 2, 1, 0), [278]), (25, (2, 120, 0, 0), [917, 919, 34, 107]), (29, (0, 2, 2, 0), [284]), (32, (0, 2, 4, 0), [293]), (35, (1, 57, 0, 0), [921, 653, 114]), (41, (1, 74, 0, 0), [922, 718, 114]), (44, (0, 2, 3, 0), [288]), (48, (2, 121, 0, 0), [923, 925, 35, 107]), (52, (9, 0, 0, 10), [927])]
theorem jm_okk0_0 : jm_k0_0.all (jm_xk 0) = true := by decide +kernel
theorem jm_okk0 : jm_k0.all (jm_xk 0) = true := by
  rw [show jm_k0 = jm_k0_0 from rfl]
  simp only [List.all_append, jm_okk0_0, Bool.and_true]
def jm_k1_0 : List (Nat × (Nat × Nat × Nat × Int) × List Nat) := [(3, (5, 0, 0, 0), [129]), (9, (6, 8, 2, 0), [130, 131, 100]), (11, (4, 2, 0, 0), [132, 133, 100]), (12, (0, 1, 0, 0), [180]), (18, (0, 1, 1, 0), [182]), (22, (6, 9, 6, 0), [146, 147, 101]), (24, (4, 3, 0, 0), [148, 149, 101]), (25, (0, 1, 2, 0), [183]), (29, (2, 18, 0, 0), [499, 501, 0, 99]), (32, (2, 28, 0, 0), [542, 544, 4, 99]), (36, (2, 30, 0, 0), [550, 552, 6, 99]), (40, (0, 9, 4, 0), [161])]
theorem jm_okk1_0 : jm_k1_0.all (jm_xk 1) = true := by decide +kernel
def jm_k1_1 : List (Nat × (Nat × Nat × Nat × Int) × List Nat) := [(44, (0, 9, 5, 0), [163]), (47, (0, 1, 5, 0), [188]), (50, (2, 32, 0, 0), [558, 560, 8, 99]), (53, (2, 29, 0, 0), [546, 548, 5, 99]), (57, (0, 1, 11, 0), [194]), (60, (0, 1, 12, 0), [195]), (63, (0, 1, 13, 0), [196]), (66, (0, 1, 3, 0), [185]), (69, (0, 9, 2, 0), [158]), (72, (0, 9, 3, 0), [159]), (75, (0, 1, 4, 0), [187]), (78, (0, 1, 8, 0), [191])]
theorem jm_okk1_1 : jm_k1_1.all (jm_xk 1) = true := by decide +kernel
def jm_k1_2 : List (Nat × (Nat × Nat × Nat × Int) × List Nat) := [(81, (0, 1, 9, 0), [192]), (84, (0, 1, 10, 0), [193]), (87, (2, 19, 0, 0), [503, 505, 1, 99]), (90, (0, 8, 1, 0), [139]), (91, (2, 20, 0, 0), [507, 508, 509, 100]), (95, (1, 21, 0, 0), [511, 512, 99]), (98, (0, 1, 6, 0), [189]), (100, (1, 22, 0, 0), [514, 515, 99]), (103, (2, 23, 0, 0), [517, 519, 2, 99]), (106, (1, 25, 0, 0), [530, 531, 99]), (109, (2, 26, 0, 0), [533, 535, 3, 99]), (112, (1, 27, 0, 0), [539, 540, 99])]
theorem jm_okk1_2 : jm_k1_2.all (jm_xk 1) = true := by decide +kernel
def jm_k1_3 : List (Nat × (Nat × Nat × Nat × Int) × List Nat) := [(115, (0, 1, 7, 0), [190]), (119, (9, 0, 0, 32), [521]), (121, (9, 0, 0, 97), [522]), (123, (1, 24, 0, 0), [523, 524, 99]), (127, (9, 0, 0, 10), [537]), (129, (9, 0, 0, 48), [538]), (131, (9, 0, 0, 632645), [526]), (133, (9, 0, 0, 12468), [527]), (135, (9, 0, 0, 605684), [528]), (137, (9, 0, 0, 20141), [529]), (139, (2, 31, 0, 0), [554, 556, 7, 99]), (143, (2, 33, 0, 0), [562, 564, 9, 99])]
theorem jm_okk1_3 : jm_k1_3.all (jm_xk 1) = true := by decide +kernel
def jm_k1_4 : List (Nat × (Nat × Nat × Nat × Int) × List Nat) := [(146, (2, 34, 0, 0), [566, 568, 10, 99]), (149, (2, 37, 0, 0), [578, 579, 580, 101]), (152, (2, 35, 0, 0), [570, 572, 11, 99]), (155, (2, 36, 0, 0), [574, 576, 12, 99]), (158, (2, 38, 0, 0), [582, 584, 13, 99]), (161, (2, 39, 0, 0), [586, 588, 14, 99]), (164, (2, 40, 0, 0), [590, 592, 15, 99])]
theorem jm_okk1_4 : jm_k1_4.all (jm_xk 1) = true := by decide +kernel
theorem jm_okk1 : jm_k1.all (jm_xk 1) = true := by
  rw [show jm_k1 = jm_k1_0 ++ (jm_k1_1 ++ (jm_k1_2 ++ (jm_k1_3 ++ (jm_k1_4)))) from rfl]
  simp only [List.all_append, jm_okk1_0, jm_okk1_1, jm_okk1_2, jm_okk1_3, jm_okk1_4, Bool.and_true]
def jm_k2_0 : List (Nat × (Nat × Nat × Nat × Int) × List Nat) := [(3, (5, 0, 0, 0), [243]), (9, (6, 4, 5, 0), [244, 245, 105]), (11, (4, 7, 0, 0), [246, 247, 105]), (12, (0, 2, 0, 0), [275]), (18, (2, 48, 0, 0), [620, 621, 622, 104]), (22, (0, 2, 1, 0), [277]), (26, (0, 2, 2, 0), [283]), (30, (0, 2, 3, 0), [287]), (34, (0, 2, 4, 0), [292]), (37, (1, 46, 0, 0), [614, 615, 113]), (43, (1, 47, 0, 0), [617, 618, 114]), (49, (1, 69, 0, 0), [699, 700, 105])]
theorem jm_okk2_0 : jm_k2_0.all (jm_xk 2) = true := by decide +kernel
def jm_k2_1 : List (Nat × (Nat × Nat × Nat × Int) × List Nat) := [(53, (2, 70, 0, 0), [702, 703, 704, 104]), (56, (1, 71, 0, 0), [706, 707, 105]), (60, (2, 72, 0, 0), [710, 711, 712, 105]), (64, (0, 4, 1, 0), [252]), (67, (0, 4, 2, 0), [255]), (70, (0, 4, 3, 0), [258]), (73, (0, 4, 4, 0), [261]), (76, (1, 75, 0, 0), [720, 721, 115]), (82, (1, 54, 0, 0), [642, 643, 115]), (85, (1, 57, 0, 0), [652, 653, 114]), (88, (1, 53, 0, 0), [639, 640, 104]), (91, (1, 56, 0, 0), [649, 650, 104])]
theorem jm_okk2_1 : jm_k2_1.all (jm_xk 2) = true := by decide +kernel
def jm_k2_2 : List (Nat × (Nat × Nat × Nat × Int) × List Nat) := [(95, (2, 59, 0, 0), [874, 660, 661, 104]), (99, (8, 0, 0, 2000000000), [875]), (100, (9, 0, 0, 3), [876]), (102, (9, 0, 0, 2), [877]), (104, (9, 0, 0, 2000000000), [878]), (106, (1, 110, 0, 0), [879, 880, 114]), (109, (1, 74, 0, 0), [949, 718, 114]), (112, (2, 128, 0, 0), [954, 956, 38, 104]), (115, (2, 126, 0, 0), [945, 947, 37, 104]), (119, (2, 125, 0, 0), [941, 943, 36, 104]), (123, (2, 127, 0, 0), [950, 951, 952, 104])]
theorem jm_okk2_2 : jm_k2_2.all (jm_xk 2) = true := by decide +kernel
theorem jm_okk2 : jm_k2.all (jm_xk 2) = true := by
  rw [show jm_k2 = jm_k2_0 ++ (jm_k2_1 ++ (jm_k2_2)) from rfl]
  simp only [List.all_append, jm_okk2_0, jm_okk2_1, jm_okk2_2, Bool.and_true]
def jm_k3_0 : List (Nat × (Nat × Nat × Nat × Int) × List Nat) := [(3, (5, 0, 0, 0), [237]), (9, (6, 2, 5, 0), [238, 239, 104]), (11, (4, 6, 0, 0), [240, 241, 104]), (12, (0, 3, 0, 0), [308]), (18, (0, 3, 1, 0), [309]), (21, (0, 3, 2, 0), [310]), (24, (2, 68, 0, 0), [695, 696, 697, 104]), (28, (2, 88, 0, 0), [780, 782, 28, 103]), (31, (0, 2, 2, 0), [282]), (35, (2, 89, 0, 0), [786, 788, 29, 103]), (38, (2, 90, 0, 0), [790, 792, 30, 103]), (41, (2, 49, 0, 0), [624, 625, 626, 103])]
theorem jm_okk3_0 : jm_k3_0.all (jm_xk 3) = true := by decide +kernel
def jm_k3_1 : List (Nat × (Nat × Nat × Nat × Int) × List Nat) := [(45, (2, 77, 0, 0), [726, 728, 21, 103]), (48, (2, 45, 0, 0), [610, 611, 612, 104]), (52, (0, 2, 4, 0), [295]), (55, (2, 51, 0, 0), [631, 632, 633, 104]), (59, (0, 2, 1, 0), [280]), (63, (2, 70, 0, 0), [730, 703, 704, 104]), (66, (2, 59, 0, 0), [659, 660, 661, 104]), (70, (0, 2, 3, 0), [290]), (74, (1, 53, 0, 0), [667, 640, 104]), (78, (1, 56, 0, 0), [784, 650, 104]), (82, (1, 47, 0, 0), [785, 618, 114]), (88, (2, 48, 0, 0), [734, 621, 622, 104])]
theorem jm_okk3_1 : jm_k3_1.all (jm_xk 3) = true := by decide +kernel
def jm_k3_2 : List (Nat × (Nat × Nat × Nat × Int) × List Nat) := [(92, (1, 78, 0, 0), [731, 732, 103]), (95, (0, 3, 3, 0), [311]), (98, (1, 50, 0, 0), [628, 629, 105]), (103, (2, 52, 0, 0), [635, 636, 637, 104]), (106, (2, 58, 0, 0), [655, 657, 17, 103]), (110, (1, 64, 0, 0), [679, 680, 105]), (113, (1, 60, 0, 0), [663, 664, 105]), (116, (1, 61, 0, 0), [668, 669, 103]), (120, (1, 62, 0, 0), [672, 673, 103]), (123, (2, 63, 0, 0), [675, 677, 18, 103]), (127, (9, 0, 0, 2), [671])]
theorem jm_okk3_2 : jm_k3_2.all (jm_xk 3) = true := by decide +kernel
theorem jm_okk3 : jm_k3.all (jm_xk 3) = true := by
  rw [show jm_k3 = jm_k3_0 ++ (jm_k3_1 ++ (jm_k3_2)) from rfl]
  simp only [List.all_append, jm_okk3_0, jm_okk3_1, jm_okk3_2, Bool.and_true]
def jm_k4_0 : List (Nat × (Nat × Nat × Nat × Int) × List Nat) := [(1, (5, 0, 0, 0), [249]), (7, (1, 93, 0, 0), [827, 803, 105]), (13, (1, 99, 0, 0), [900, 825, 105]), (17, (1, 50, 0, 0), [666, 629, 105]), (21, (1, 64, 0, 0), [709, 680, 105]), (25, (1, 73, 0, 0), [714, 715, 105]), (28, (0, 4, 0, 0), [250]), (32, (0, 4, 1, 0), [253]), (35, (1, 74, 0, 0), [717, 718, 114]), (40, (0, 4, 2, 0), [256]), (43, (0, 4, 3, 0), [259]), (46, (0, 4, 4, 0), [262])]
theorem jm_okk4_0 : jm_k4_0.all (jm_xk 4) = true := by decide +kernel
theorem jm_okk4 : jm_k4.all (jm_xk 4) = true := by
  rw [show jm_k4 = jm_k4_0 from rfl]
  simp only [List.all_append, jm_okk4_0, Bool.and_true]
def jm_k5_0 : List (Nat × (Nat × Nat × Nat × Int) × List Nat) := [(1, (5, 0, 0, 0), [405]), (7, (6, 6, 3, 0), [406, 378, 108]), (9, (4, 10, 0, 0), [407, 380, 108]), (10, (0, 5, 0, 0), [410]), (16, (6, 8, 2, 0), [408, 131, 100]), (18, (4, 2, 0, 0), [409, 133, 100]), (19, (0, 5, 1, 0), [412])]
theorem jm_okk5_0 : jm_k5_0.all (jm_xk 5) = true := by decide +kernel
theorem jm_okk5 : jm_k5.all (jm_xk 5) = true := by
  rw [show jm_k5 = jm_k5_0 from rfl]
  simp only [List.all_append, jm_okk5_0, Bool.and_true]
def jm_k6_0 : List (Nat × (Nat × Nat × Nat × Int) × List Nat) := [(1, (5, 0, 0, 0), [382]), (7, (6, 7, 3, 0), [383, 323, 106]), (9, (4, 8, 0, 0), [384, 325, 106]), (10, (0, 6, 0, 0), [385]), (16, (0, 6, 1, 0), [387]), (20, (0, 6, 2, 0), [389]), (23, (2, 97, 0, 0), [816, 817, 818, 106])]
theorem jm_okk6_0 : jm_k6_0.all (jm_xk 6) = true := by decide +kernel
theorem jm_okk6 : jm_k6.all (jm_xk 6) = true := by
  rw [show jm_k6 = jm_k6_0 from rfl]
  simp only [List.all_append, jm_okk6_0, Bool.and_true]
def jm_k7_0 : List (Nat × (Nat × Nat × Nat × Int) × List Nat) := [(3, (5, 0, 0, 0), [327]), (9, (0, 7, 0, 0), [328]), (13, (0, 7, 1, 0), [329]), (17, (0, 7, 2, 0), [330]), (20, (2, 84, 0, 0), [761, 763, 25, 106]), (24, (0, 2, 1, 0), [279]), (27, (0, 2, 2, 0), [285]), (31, (0, 2, 3, 0), [289]), (35, (0, 2, 4, 0), [294]), (38, (2, 81, 0, 0), [745, 747, 23, 106]), (42, (2, 82, 0, 0), [751, 753, 24, 106]), (45, (9, 0, 0, 4294967295), [749])]
theorem jm_okk7_0 : jm_k7_0.all (jm_xk 7) = true := by decide +kernel
def jm_k7_1 : List (Nat × (Nat × Nat × Nat × Int) × List Nat) := [(47, (1, 74, 0, 0), [750, 718, 114]), (53, (9, 0, 0, -1), [755]), (55, (1, 53, 0, 0), [765, 640, 104]), (59, (2, 85, 0, 0), [766, 768, 26, 106]), (63, (2, 70, 0, 0), [760, 703, 704, 104]), (66, (2, 86, 0, 0), [770, 772, 27, 106]), (70, (2, 48, 0, 0), [774, 621, 622, 104])]
theorem jm_okk7_1 : jm_k7_1.all (jm_xk 7) = true := by decide +kernel
theorem jm_okk7 : jm_k7.all (jm_xk 7) = true := by
  rw [show jm_k7 = jm_k7_0 ++ (jm_k7_1) from rfl]
  simp only [List.all_append, jm_okk7_0, jm_okk7_1, Bool.and_true]
def jm_k8_0 : List (Nat × (Nat × Nat × Nat × Int) × List Nat) := [(3, (5, 0, 0, 0), [135]), (9, (0, 8, 0, 0), [136]), (15, (0, 8, 1, 0), [138]), (19, (1, 57, 0, 0), [854, 653, 114])]
theorem jm_okk8_0 : jm_k8_0.all (jm_xk 8) = true := by decide +kernel
theorem jm_okk8 : jm_k8.all (jm_xk 8) = true := by
  rw [show jm_k8 = jm_k8_0 from rfl]
  simp only [List.all_append, jm_okk8_0, Bool.and_true]
def jm_k9_0 : List (Nat × (Nat × Nat × Nat × Int) × List Nat) := [(3, (5, 0, 0, 0), [151]), (9, (0, 9, 0, 0), [152]), (15, (0, 9, 1, 0), [154]), (18, (0, 9, 2, 0), [156])]
theorem jm_okk9_0 : jm_k9_0.all (jm_xk 9) = true := by decide +kernel
theorem jm_okk9 : jm_k9.all (jm_xk 9) = true := by
  rw [show jm_k9 = jm_k9_0 from rfl]
  simp only [List.all_append, jm_okk9_0, Bool.and_true]
def jm_k10_0 : List (Nat × (Nat × Nat × Nat × Int) × List Nat) := [(3, (5, 0, 0, 0), [231]), (9, (6, 3, 4, 0), [232, 233, 103]), (11, (4, 5, 0, 0), [234, 235, 103]), (12, (0, 10, 0, 0), [341]), (18, (6, 7, 3, 0), [322, 323, 106]), (20, (4, 8, 0, 0), [324, 325, 106]), (21, (0, 10, 1, 0), [343]), (25, (6, 2, 5, 0), [339, 239, 104]), (27, (4, 6, 0, 0), [340, 241, 104]), (28, (0, 10, 2, 0), [344]), (32, (0, 10, 3, 0), [345]), (35, (0, 10, 4, 0), [346])]
theorem jm_okk10_0 : jm_k10_0.all (jm_xk 10) = true := by decide +kernel
def jm_k10_1 : List (Nat × (Nat × Nat × Nat × Int) × List Nat) := [(39, (0, 10, 5, 0), [347]), (43, (0, 9, 2, 0), [157]), (48, (0, 9, 0, 0), [153]), (51, (0, 9, 1, 0), [155]), (54, (2, 44, 0, 0), [606, 607, 608, 103]), (58, (2, 65, 0, 0), [682, 684, 19, 102]), (62, (2, 66, 0, 0), [686, 688, 20, 102]), (66, (1, 64, 0, 0), [690, 680, 105]), (72, (2, 67, 0, 0), [691, 692, 693, 103]), (75, (2, 79, 0, 0), [735, 737, 22, 102]), (79, (2, 87, 0, 0), [776, 777, 778, 103]), (83, (2, 42, 0, 0), [739, 599, 600, 106])]
theorem jm_okk10_1 : jm_k10_1.all (jm_xk 10) = true := by decide +kernel
def jm_k10_2 : List (Nat × (Nat × Nat × Nat × Int) × List Nat) := [(86, (2, 68, 0, 0), [740, 696, 697, 104]), (89, (2, 80, 0, 0), [741, 742, 743, 106]), (93, (2, 83, 0, 0), [756, 757, 758, 106]), (97, (2, 49, 0, 0), [775, 625, 626, 103])]
theorem jm_okk10_2 : jm_k10_2.all (jm_xk 10) = true := by decide +kernel
theorem jm_okk10 : jm_k10.all (jm_xk 10) = true := by
  rw [show jm_k10 = jm_k10_0 ++ (jm_k10_1 ++ (jm_k10_2)) from rfl]
  simp only [List.all_append, jm_okk10_0, jm_okk10_1, jm_okk10_2, Bool.and_true]
def jm_k11_0 : List (Nat × (Nat × Nat × Nat × Int) × List Nat) := [(1, (5, 0, 0, 0), [121]), (7, (6, 1, 14, 0), [124, 125, 99]), (9, (4, 1, 0, 0), [126, 127, 99]), (10, (0, 11, 1, 0), [428]), (16, (0, 1, 0, 0), [181]), (20, (0, 11, 0, 0), [427]), (21, (6, 10, 6, 0), [226, 227, 102]), (23, (4, 4, 0, 0), [228, 229, 102]), (24, (0, 11, 2, 0), [429]), (28, (0, 10, 0, 0), [342]), (32, (0, 11, 3, 0), [430]), (33, (6, 0, 2, 0), [361, 362, 107])]
theorem jm_okk11_0 : jm_k11_0.all (jm_xk 11) = true := by decide +kernel
def jm_k11_1 : List (Nat × (Nat × Nat × Nat × Int) × List Nat) := [(35, (4, 9, 0, 0), [363, 364, 107]), (36, (0, 11, 4, 0), [431]), (40, (6, 2, 5, 0), [375, 239, 104]), (42, (4, 6, 0, 0), [376, 241, 104]), (43, (0, 11, 5, 0), [432]), (47, (0, 11, 6, 0), [433]), (50, (6, 6, 3, 0), [377, 378, 108]), (52, (4, 10, 0, 0), [379, 380, 108]), (53, (0, 11, 7, 0), [434]), (57, (0, 11, 8, 0), [435]), (61, (6, 5, 3, 0), [399, 401, 109]), (63, (0, 11, 9, 0), [436])]
theorem jm_okk11_1 : jm_k11_1.all (jm_xk 11) = true := by decide +kernel
def jm_k11_2 : List (Nat × (Nat × Nat × Nat × Int) × List Nat) := [(67, (4, 11, 0, 0), [402, 403, 109]), (68, (0, 11, 10, 0), [437]), (72, (0, 11, 11, 0), [438]), (75, (0, 11, 12, 0), [439]), (78, (1, 12, 0, 0), [422, 423, 110]), (84, (6, 9, 6, 0), [425, 147, 101]), (86, (4, 3, 0, 0), [426, 149, 101]), (87, (0, 11, 13, 0), [440]), (91, (0, 11, 16, 0), [443]), (95, (0, 8, 1, 0), [137]), (100, (2, 14, 0, 0), [483, 484, 485, 100]), (104, (2, 17, 0, 0), [495, 496, 497, 99])]
theorem jm_okk11_2 : jm_k11_2.all (jm_xk 11) = true := by decide +kernel
def jm_k11_3 : List (Nat × (Nat × Nat × Nat × Int) × List Nat) := [(108, (0, 1, 3, 0), [186]), (111, (2, 41, 0, 0), [594, 596, 16, 98]), (114, (0, 6, 1, 0), [388]), (117, (0, 6, 2, 0), [390]), (120, (2, 43, 0, 0), [602, 603, 604, 102]), (124, (0, 1, 2, 0), [184]), (125, (0, 9, 4, 0), [162]), (126, (0, 9, 5, 0), [164]), (127, (0, 6, 0, 0), [386]), (131, (2, 42, 0, 0), [598, 599, 600, 106]), (136, (0, 11, 15, 0), [442]), (139, (0, 5, 2, 0), [414])]
theorem jm_okk11_3 : jm_k11_3.all (jm_xk 11) = true := by decide +kernel
def jm_k11_4 : List (Nat × (Nat × Nat × Nat × Int) × List Nat) := [(143, (1, 93, 0, 0), [802, 803, 105]), (149, (2, 94, 0, 0), [805, 807, 31, 98]), (152, (1, 99, 0, 0), [824, 825, 105]), (156, (2, 68, 0, 0), [828, 696, 697, 104]), (160, (2, 80, 0, 0), [829, 742, 743, 106]), (164, (0, 7, 2, 0), [331]), (167, (2, 101, 0, 0), [834, 835, 836, 106]), (170, (0, 11, 14, 0), [441]), (173, (1, 95, 0, 0), [809, 810, 114]), (179, (2, 103, 0, 0), [842, 844, 32, 98]), (183, (2, 96, 0, 0), [812, 813, 814, 108]), (186, (0, 5, 0, 0), [411])]
theorem jm_okk11_4 : jm_k11_4.all (jm_xk 11) = true := by decide +kernel
def jm_k11_5 : List (Nat × (Nat × Nat × Nat × Int) × List Nat) := [(189, (0, 5, 1, 0), [413]), (190, (2, 105, 0, 0), [850, 851, 852, 100]), (193, (8, 0, 0, -100000), [863]), (194, (1, 64, 0, 0), [864, 680, 105]), (197, (1, 69, 0, 0), [865, 700, 105]), (200, (1, 108, 0, 0), [866, 867, 105]), (203, (1, 46, 0, 0), [869, 615, 113]), (209, (2, 109, 0, 0), [870, 871, 872, 104]), (212, (1, 60, 0, 0), [882, 664, 105]), (215, (1, 111, 0, 0), [883, 884, 105]), (218, (1, 112, 0, 0), [886, 887, 105]), (221, (2, 113, 0, 0), [889, 891, 33, 98])]
theorem jm_okk11_5 : jm_k11_5.all (jm_xk 11) = true := by decide +kernel
def jm_k11_6 : List (Nat × (Nat × Nat × Nat × Int) × List Nat) := [(225, (0, 2, 0, 0), [276]), (229, (0, 4, 0, 0), [251]), (232, (0, 4, 1, 0), [254]), (235, (0, 4, 2, 0), [257]), (238, (0, 4, 3, 0), [260]), (241, (0, 4, 4, 0), [263]), (244, (0, 2, 3, 0), [291]), (248, (0, 2, 4, 0), [296]), (251, (1, 115, 0, 0), [897, 898, 105]), (255, (1, 116, 0, 0), [901, 902, 113]), (258, (1, 74, 0, 0), [908, 718, 114]), (261, (2, 119, 0, 0), [913, 914, 915, 107])]
theorem jm_okk11_6 : jm_k11_6.all (jm_xk 11) = true := by decide +kernel
def jm_k11_7 : List (Nat × (Nat × Nat × Nat × Int) × List Nat) := [(265, (0, 0, 1, 0), [369]), (266, (2, 122, 0, 0), [928, 929, 930, 107]), (269, (9, 0, 0, -1000000000000000), [936]), (271, (2, 124, 0, 0), [937, 938, 939, 104]), (274, (2, 127, 0, 0), [958, 951, 952, 104]), (278, (2, 87, 0, 0), [963, 777, 778, 103]), (284, (0, 3, 3, 0), [312]), (287, (2, 67, 0, 0), [972, 692, 693, 103]), (291, (2, 49, 0, 0), [977, 625, 626, 103]), (295, (1, 134, 0, 0), [982, 983, 98]), (299, (2, 135, 0, 0), [987, 988, 989, 103]), (302, (8, 0, 0, -1000000), [985])]
theorem jm_okk11_7 : jm_k11_7.all (jm_xk 11) = true := by decide +kernel
def jm_k11_8 : List (Nat × (Nat × Nat × Nat × Int) × List Nat) := [(303, (8, 0, 0, 1000000), [986]), (304, (2, 137, 0, 0), [995, 996, 997, 103]), (307, (2, 139, 0, 0), [1003, 1005, 39, 98]), (310, (2, 140, 0, 0), [1007, 1008, 1009, 103]), (313, (1, 142, 0, 0), [1015, 1016, 105]), (316, (2, 144, 0, 0), [1022, 1024, 40, 98]), (319, (2, 146, 0, 0), [1030, 1031, 1032, 106]), (322, (2, 83, 0, 0), [1038, 757, 758, 106]), (325, (0, 9, 3, 0), [160]), (327, (0, 2, 1, 0), [281]), (328, (0, 2, 2, 0), [286]), (330, (2, 150, 0, 0), [1047, 1049, 41, 98])]
theorem jm_okk11_8 : jm_k11_8.all (jm_xk 11) = true := by decide +kernel
def jm_k11_9 : List (Nat × (Nat × Nat × Nat × Int) × List Nat) := [(333, (2, 151, 0, 0), [1051, 1053, 42, 98]), (336, (2, 152, 0, 0), [1055, 1057, 43, 98]), (339, (2, 153, 0, 0), [1059, 1060, 1061, 106])]
theorem jm_okk11_9 : jm_k11_9.all (jm_xk 11) = true := by decide +kernel
theorem jm_okk11 : jm_k11.all (jm_xk 11) = true := by
  rw [show jm_k11 = jm_k11_0 ++ (jm_k11_1 ++ (jm_k11_2 ++ (jm_k11_3 ++ (jm_k11_4 ++ (jm_k11_5 ++ (jm_k11_6 ++ (jm_k11_7 ++ (jm_k11_8 ++ (jm_k11_9))))))))) from rfl]
  simp only [List.all_append, jm_okk11_0, jm_okk11_1, jm_okk11_2, jm_okk11_3, jm_okk11_4, jm_okk11_5, jm_okk11_6, jm_okk11_7, jm_okk11_8, jm_okk11_9, Bool.and_true]
def jm_k12_0 : List (Nat × (Nat × Nat × Nat × Int) × List Nat) := [(7, (5, 0, 0, 0), [1068]), (13, (0, 12, 1, 0), [1076]), (17, (0, 12, 3, 0), [1078]), (20, (0, 12, 5, 0), [1080]), (24, (0, 12, 6, 0), [1081]), (27, (0, 12, 7, 0), [1082]), (30, (0, 12, 8, 0), [1083]), (34, (0, 12, 9, 0), [1084]), (37, (0, 12, 16, 0), [1091]), (40, (0, 12, 17, 0), [1092]), (43, (0, 12, 19, 0), [1094]), (46, (0, 12, 20, 0), [1095])]
theorem jm_okk12_0 : jm_k12_0.all (jm_xk 12) = true := by decide +kernel
def jm_k12_1 : List (Nat × (Nat × Nat × Nat × Int) × List Nat) := [(49, (0, 12, 22, 0), [1097]), (52, (0, 12, 23, 0), [1098]), (55, (0, 12, 24, 0), [1099]), (58, (0, 12, 26, 0), [1101]), (61, (0, 12, 27, 0), [1102]), (64, (0, 12, 28, 0), [1103]), (67, (0, 12, 32, 0), [1107]), (70, (0, 12, 33, 0), [1108]), (73, (0, 12, 34, 0), [1109]), (76, (0, 12, 35, 0), [1110]), (79, (0, 12, 37, 0), [1112]), (82, (0, 12, 38, 0), [1113])]
theorem jm_okk12_1 : jm_k12_1.all (jm_xk 12) = true := by decide +kernel
def jm_k12_2 : List (Nat × (Nat × Nat × Nat × Int) × List Nat) := [(85, (0, 12, 41, 0), [1116]), (88, (0, 12, 42, 0), [1117]), (92, (0, 12, 50, 0), [1125]), (95, (0, 12, 51, 0), [1126]), (98, (0, 12, 59, 0), [1134]), (101, (0, 12, 61, 0), [1136]), (104, (1, 155, 0, 0), [1069, 1070, 111]), (108, (0, 12, 2, 0), [1077]), (111, (2, 158, 0, 0), [1267, 1269, 44, 111]), (115, (0, 12, 4, 0), [1079]), (118, (9, 0, 0, 27), [1075]), (120, (1, 156, 0, 0), [1072, 1073, 111])]
theorem jm_okk12_2 : jm_k12_2.all (jm_xk 12) = true := by decide +kernel
def jm_k12_3 : List (Nat × (Nat × Nat × Nat × Int) × List Nat) := [(124, (0, 12, 10, 0), [1085]), (127, (2, 162, 0, 0), [1283, 1285, 46, 111]), (131, (2, 163, 0, 0), [1287, 1289, 47, 111]), (135, (1, 164, 0, 0), [1291, 1292, 111]), (139, (1, 165, 0, 0), [1294, 1295, 111]), (142, (2, 166, 0, 0), [1297, 1299, 48, 111]), (146, (1, 167, 0, 0), [1301, 1302, 111]), (149, (0, 12, 12, 0), [1087]), (152, (0, 12, 11, 0), [1086]), (155, (0, 12, 13, 0), [1088]), (158, (0, 12, 14, 0), [1089]), (161, (0, 12, 15, 0), [1090])]
theorem jm_okk12_3 : jm_k12_3.all (jm_xk 12) = true := by decide +kernel
def jm_k12_4 : List (Nat × (Nat × Nat × Nat × Int) × List Nat) := [(164, (2, 171, 0, 0), [1316, 1318, 52, 111]), (167, (2, 169, 0, 0), [1308, 1310, 50, 111]), (170, (2, 170, 0, 0), [1312, 1314, 51, 111]), (173, (2, 161, 0, 0), [1279, 1281, 45, 111]), (176, (0, 12, 18, 0), [1093]), (179, (2, 168, 0, 0), [1304, 1306, 49, 111]), (182, (2, 172, 0, 0), [1320, 1322, 53, 111]), (185, (2, 175, 0, 0), [1332, 1334, 56, 111]), (188, (2, 185, 0, 0), [1370, 1372, 64, 111]), (191, (0, 12, 29, 0), [1104]), (194, (0, 12, 21, 0), [1096]), (197, (0, 12, 30, 0), [1105])]
theorem jm_okk12_4 : jm_k12_4.all (jm_xk 12) = true := by decide +kernel
def jm_k12_5 : List (Nat × (Nat × Nat × Nat × Int) × List Nat) := [(200, (0, 12, 25, 0), [1100]), (203, (2, 186, 0, 0), [1374, 1376, 65, 111]), (206, (0, 12, 40, 0), [1115]), (209, (2, 173, 0, 0), [1324, 1326, 54, 111]), (212, (0, 12, 31, 0), [1106]), (215, (2, 174, 0, 0), [1328, 1330, 55, 111]), (218, (1, 176, 0, 0), [1336, 1337, 111]), (222, (2, 177, 0, 0), [1339, 1341, 57, 111]), (226, (2, 178, 0, 0), [1343, 1345, 58, 111]), (229, (0, 12, 36, 0), [1111]), (232, (1, 184, 0, 0), [1367, 1368, 111]), (235, (2, 181, 0, 0), [1355, 1357, 61, 111])]
theorem jm_okk12_5 : jm_k12_5.all (jm_xk 12) = true := by decide +kernel
def jm_k12_6 : List (Nat × (Nat × Nat × Nat × Int) × List Nat) := [(238, (2, 179, 0, 0), [1347, 1349, 59, 111]), (242, (2, 180, 0, 0), [1351, 1353, 60, 111]), (246, (2, 183, 0, 0), [1363, 1365, 63, 111]), (249, (2, 182, 0, 0), [1359, 1361, 62, 111]), (252, (2, 187, 0, 0), [1378, 1380, 66, 111]), (256, (2, 188, 0, 0), [1382, 1384, 67, 111]), (259, (1, 194, 0, 0), [1405, 1406, 111]), (262, (2, 201, 0, 0), [1428, 1430, 73, 111]), (265, (2, 202, 0, 0), [1432, 1434, 74, 111]), (269, (2, 209, 0, 0), [1459, 1461, 79, 111]), (273, (2, 203, 0, 0), [1436, 1438, 75, 111]), (276, (1, 204, 0, 0), [1440, 1441, 111])]
theorem jm_okk12_6 : jm_k12_6.all (jm_xk 12) = true := by decide +kernel
def jm_k12_7 : List (Nat × (Nat × Nat × Nat × Int) × List Nat) := [(280, (1, 191, 0, 0), [1394, 1395, 111]), (283, (2, 205, 0, 0), [1443, 1445, 76, 111]), (287, (2, 208, 0, 0), [1455, 1457, 78, 111]), (290, (1, 217, 0, 0), [1491, 1492, 111]), (293, (0, 12, 39, 0), [1114]), (296, (2, 213, 0, 0), [1475, 1477, 81, 111]), (299, (2, 218, 0, 0), [1494, 1496, 82, 111]), (302, (1, 220, 0, 0), [1502, 1503, 111]), (305, (2, 221, 0, 0), [1505, 1507, 83, 111]), (308, (0, 12, 52, 0), [1127]), (310, (1, 195, 0, 0), [1408, 1409, 111]), (313, (0, 12, 43, 0), [1118])]
theorem jm_okk12_7 : jm_k12_7.all (jm_xk 12) = true := by decide +kernel
def jm_k12_8 : List (Nat × (Nat × Nat × Nat × Int) × List Nat) := [(316, (0, 12, 44, 0), [1119]), (319, (0, 12, 46, 0), [1121]), (322, (0, 12, 45, 0), [1120]), (325, (0, 12, 47, 0), [1122]), (328, (0, 12, 48, 0), [1123]), (331, (0, 12, 49, 0), [1124]), (334, (9, 0, 0, 65535), [1420]), (336, (1, 198, 0, 0), [1417, 1418, 111]), (340, (8, 0, 0, 65535), [1454]), (341, (1, 199, 0, 0), [1421, 1422, 111]), (345, (2, 193, 0, 0), [1401, 1403, 71, 111]), (348, (1, 206, 0, 0), [1447, 1448, 111])]
theorem jm_okk12_8 : jm_k12_8.all (jm_xk 12) = true := by decide +kernel
def jm_k12_9 : List (Nat × (Nat × Nat × Nat × Int) × List Nat) := [(351, (2, 207, 0, 0), [1450, 1452, 77, 111]), (355, (1, 197, 0, 0), [1414, 1415, 111]), (358, (0, 12, 53, 0), [1128]), (361, (0, 12, 54, 0), [1129]), (365, (0, 12, 55, 0), [1130]), (368, (0, 12, 56, 0), [1131]), (371, (0, 12, 57, 0), [1132]), (374, (1, 196, 0, 0), [1411, 1412, 111]), (377, (2, 192, 0, 0), [1397, 1399, 70, 111]), (380, (0, 12, 58, 0), [1133]), (383, (2, 190, 0, 0), [1390, 1392, 69, 111]), (386, (2, 200, 0, 0), [1424, 1426, 72, 111])]
theorem jm_okk12_9 : jm_k12_9.all (jm_xk 12) = true := by decide +kernel
def jm_k12_10 : List (Nat × (Nat × Nat × Nat × Int) × List Nat) := [(389, (2, 189, 0, 0), [1386, 1388, 68, 111]), (393, (2, 210, 0, 0), [1463, 1465, 80, 111]), (397, (2, 227, 0, 0), [1529, 1531, 84, 111]), (401, (8, 0, 0, -1000000), [1537]), (402, (8, 0, 0, 1000000), [1538]), (403, (1, 231, 0, 0), [1547, 1548, 111]), (406, (9, 0, 0, 2), [1563]), (408, (9, 0, 0, 2000000000), [1564]), (410, (8, 0, 0, -100000), [1558]), (411, (2, 234, 0, 0), [1559, 1561, 85, 111]), (414, (2, 235, 0, 0), [1565, 1567, 86, 111]), (417, (2, 236, 0, 0), [1569, 1571, 87, 111])]
theorem jm_okk12_10 : jm_k12_10.all (jm_xk 12) = true := by decide +kernel
def jm_k12_11 : List (Nat × (Nat × Nat × Nat × Int) × List Nat) := [(420, (0, 12, 60, 0), [1135]), (423, (9, 0, 0, 9), [1589]), (425, (9, 0, 0, 10), [1590]), (427, (2, 239, 0, 0), [1581, 1583, 89, 111]), (430, (2, 240, 0, 0), [1585, 1587, 90, 111]), (434, (2, 238, 0, 0), [1577, 1579, 88, 111]), (437, (2, 242, 0, 0), [1595, 1597, 91, 111]), (440, (9, 0, 0, -1000000000000000), [1607]), (442, (2, 245, 0, 0), [1608, 1610, 92, 111]), (446, (9, 0, 0, 2000000001), [1648]), (448, (9, 0, 0, 65536), [1649]), (450, (8, 0, 0, 32768), [1650])]
theorem jm_okk12_11 : jm_k12_11.all (jm_xk 12) = true := by decide +kernel
def jm_k12_12 : List (Nat × (Nat × Nat × Nat × Int) × List Nat) := [(451, (2, 251, 0, 0), [1632, 1634, 93, 111]), (455, (2, 252, 0, 0), [1636, 1638, 94, 111]), (458, (2, 253, 0, 0), [1640, 1642, 95, 111]), (461, (2, 254, 0, 0), [1644, 1646, 96, 111])]
theorem jm_okk12_12 : jm_k12_12.all (jm_xk 12) = true := by decide +kernel
theorem jm_okk12 : jm_k12.all (jm_xk 12) = true := by
  rw [show jm_k12 = jm_k12_0 ++ (jm_k12_1 ++ (jm_k12_2 ++ (jm_k12_3 ++ (jm_k12_4 ++ (jm_k12_5 ++ (jm_k12_6 ++ (jm_k12_7 ++ (jm_k12_8 ++ (jm_k12_9 ++ (jm_k12_10 ++ (jm_k12_11 ++ (jm_k12_12)))))))))))) from rfl]
  simp only [List.all_append, jm_okk12_0, jm_okk12_1, jm_okk12_2, jm_okk12_3, jm_okk12_4, jm_okk12_5, jm_okk12_6, jm_okk12_7, jm_okk12_8, jm_okk12_9, jm_okk12_10, jm_okk12_11, jm_okk12_12, Bool.and_true]
def jm_k13_0 : List (Nat × (Nat × Nat × Nat × Int) × List Nat) := [(264, (8, 0, 0, 65536), [648])]
theorem jm_okk13_0 : jm_k13_0.all (jm_xk 13) = true := by decide +kernel
theorem jm_okk13 : jm_k13.all (jm_xk 13) = true := by
  rw [show jm_k13 = jm_k13_0 from rfl]
  simp only [List.all_append, jm_okk13_0, Bool.and_true]
def jm_k14_0 : List (Nat × (Nat × Nat × Nat × Int) × List Nat) := [(308, (1, 55, 0, 0), [645, 646, 113]), (311, (1, 76, 0, 0), [723, 724, 113])]
theorem jm_okk14_0 : jm_k14_0.all (jm_xk 14) = true := by decide +kernel
theorem jm_okk14 : jm_k14.all (jm_xk 14) = true := by
  rw [show jm_k14 = jm_k14_0 from rfl]
  simp only [List.all_append, jm_okk14_0, Bool.and_true]
theorem jm_okk15 : jm_k15.all (jm_xk 15) = true := rfl
theorem jm_okk16 : jm_k16.all (jm_xk 16) = true := rfl
def jm_k17_0 : List (Nat × (Nat × Nat × Nat × Int) × List Nat) := [(7, (6, 11, 17, 0), [116, 117, 98]), (9, (3, 0, 0, 0), [118, 119, 98]), (10, (6, 12, 62, 0), [1063, 1064, 111]), (12, (3, 154, 0, 0), [1065, 1066, 111]), (13, (2, 13, 0, 0), [479, 480, 481, 98]), (17, (2, 157, 0, 0), [1263, 1264, 1265, 111]), (18, (2, 15, 0, 0), [487, 488, 489, 98]), (22, (2, 159, 0, 0), [1271, 1272, 1273, 111]), (23, (2, 16, 0, 0), [491, 492, 493, 98]), (27, (2, 160, 0, 0), [1275, 1276, 1277, 111]), (28, (2, 91, 0, 0), [794, 795, 796, 98]), (31, (2, 211, 0, 0), [1467, 1468, 1469, 111])]
theorem jm_okk17_0 : jm_k17_0.all (jm_xk 17) = true := by decide +kernel
def jm_k17_1 : List (Nat × (Nat × Nat × Nat × Int) × List Nat) := [(32, (2, 92, 0, 0), [798, 799, 800, 98]), (36, (2, 216, 0, 0), [1487, 1488, 1489, 111]), (37, (2, 98, 0, 0), [820, 821, 822, 98]), (41, (2, 219, 0, 0), [1498, 1499, 1500, 111]), (42, (2, 100, 0, 0), [830, 831, 832, 98]), (46, (2, 222, 0, 0), [1509, 1510, 1511, 111]), (47, (2, 102, 0, 0), [838, 839, 840, 98]), (50, (2, 212, 0, 0), [1471, 1472, 1473, 111]), (51, (2, 107, 0, 0), [859, 860, 861, 98]), (55, (2, 233, 0, 0), [1554, 1555, 1556, 111]), (56, (2, 129, 0, 0), [959, 960, 961, 98]), (59, (2, 223, 0, 0), [1513, 1514, 1515, 111])]
theorem jm_okk17_1 : jm_k17_1.all (jm_xk 17) = true := by decide +kernel
def jm_k17_2 : List (Nat × (Nat × Nat × Nat × Int) × List Nat) := [(60, (2, 130, 0, 0), [964, 965, 966, 98]), (63, (2, 224, 0, 0), [1517, 1518, 1519, 111]), (64, (2, 131, 0, 0), [968, 969, 970, 98]), (68, (2, 225, 0, 0), [1521, 1522, 1523, 111]), (69, (2, 132, 0, 0), [973, 974, 975, 98]), (72, (2, 226, 0, 0), [1525, 1526, 1527, 111]), (73, (2, 133, 0, 0), [978, 979, 980, 98]), (76, (2, 228, 0, 0), [1533, 1534, 1535, 111]), (77, (2, 114, 0, 0), [893, 894, 895, 98]), (80, (2, 230, 0, 0), [1543, 1544, 1545, 111]), (81, (2, 117, 0, 0), [904, 905, 906, 98]), (84, (2, 232, 0, 0), [1550, 1551, 1552, 111])]
theorem jm_okk17_2 : jm_k17_2.all (jm_xk 17) = true := by decide +kernel
def jm_k17_3 : List (Nat × (Nat × Nat × Nat × Int) × List Nat) := [(85, (2, 136, 0, 0), [991, 992, 993, 98]), (88, (2, 229, 0, 0), [1539, 1540, 1541, 111]), (89, (2, 118, 0, 0), [909, 910, 911, 98]), (92, (2, 237, 0, 0), [1573, 1574, 1575, 111]), (93, (2, 138, 0, 0), [999, 1000, 1001, 98]), (96, (2, 241, 0, 0), [1591, 1592, 1593, 111]), (97, (2, 145, 0, 0), [1026, 1027, 1028, 98]), (100, (2, 246, 0, 0), [1612, 1613, 1614, 111]), (101, (2, 141, 0, 0), [1011, 1012, 1013, 98]), (104, (2, 243, 0, 0), [1599, 1600, 1601, 111]), (105, (2, 123, 0, 0), [932, 933, 934, 98]), (109, (2, 244, 0, 0), [1603, 1604, 1605, 111])]
theorem jm_okk17_3 : jm_k17_3.all (jm_xk 17) = true := by decide +kernel
def jm_k17_4 : List (Nat × (Nat × Nat × Nat × Int) × List Nat) := [(110, (2, 147, 0, 0), [1034, 1035, 1036, 98]), (114, (2, 247, 0, 0), [1616, 1617, 1618, 111]), (115, (2, 143, 0, 0), [1018, 1019, 1020, 98]), (118, (2, 248, 0, 0), [1620, 1621, 1622, 111]), (119, (2, 148, 0, 0), [1039, 1040, 1041, 98]), (122, (2, 249, 0, 0), [1624, 1625, 1626, 111]), (123, (2, 104, 0, 0), [846, 847, 848, 98]), (127, (2, 214, 0, 0), [1479, 1480, 1481, 111]), (128, (2, 106, 0, 0), [855, 856, 857, 98]), (131, (2, 215, 0, 0), [1483, 1484, 1485, 111]), (132, (2, 149, 0, 0), [1043, 1044, 1045, 98]), (135, (2, 250, 0, 0), [1628, 1629, 1630, 111])]
theorem jm_okk17_4 : jm_k17_4.all (jm_xk 17) = true := by decide +kernel
theorem jm_okk17 : jm_k17.all (jm_xk 17) = true := by
  rw [show jm_k17 = jm_k17_0 ++ (jm_k17_1 ++ (jm_k17_2 ++ (jm_k17_3 ++ (jm_k17_4)))) from rfl]
  simp only [List.all_append, jm_okk17_0, jm_okk17_1, jm_okk17_2, jm_okk17_3, jm_okk17_4, Bool.and_true]
end
section
theorem jm_okc0 : jm_xc 0 = true := by decide +kernel
theorem jm_okc1 : jm_xc 1 = true := by decide +kernel
theorem jm_okc2 : jm_xc 2 = true := by decide +kernel
theorem jm_okc3 : jm_xc 3 = true := by decide +kernel
theorem jm_okc4 : jm_xc 4 = true := by decide +kernel
theorem jm_okc5 : jm_xc 5 = true := by decide +kernel
theorem jm_okc6 : jm_xc 6 = true := by decide +kernel
theorem jm_okc7 : jm_xc 7 = true := by decide +kernel
theorem jm_okc8 : jm_xc 8 = true := by decide +kernel
theorem jm_okc9 : jm_xc 9 = true := by decide +kernel
theorem jm_okc10 : jm_xc 10 = true := by decide +kernel
theorem jm_okc11 : jm_xc 11 = true := by decide +kernel
theorem jm_okc12 : jm_xc 12 = true := by decide +kernel
theorem jm_okc13 : jm_xc 13 = true := by decide +kernel
theorem jm_okc14 : jm_xc 14 = true := by decide +kernel
theorem jm_okc15 : jm_xc 15 = true := by decide +kernel
theorem jm_okc16 : jm_xc 16 = true := by decide +kernel
theorem jm_okc17 : jm_xc 17 = true := by decide +kernel
theorem jm_okc18 : jm_xc 18 = true := by decide +kernel
theorem jm_okc19 : jm_xc 19 = true := by decide +kernel
theorem jm_okc20 : jm_xc 20 = true := by decide +kernel
theorem jm_okc21 : jm_xc 21 = true := by decide +kernel
theorem jm_okc22 : jm_xc 22 = true := by decide +kernel
theorem jm_okc23 : jm_xc 23 = true := by decide +kernel
theorem jm_okc24 : jm_xc 24 = true := by decide +kernel
theorem jm_okc25 : jm_xc 25 = true := by decide +kernel
theorem jm_okc26 : jm_xc 26 = true := by decide +kernel
theorem jm_okc27 : jm_xc 27 = true := by decide +kernel
theorem jm_okc28 : jm_xc 28 = true := by decide +kernel
theorem jm_okc29 : jm_xc 29 = true := by decide +kernel
theorem jm_okc30 : jm_xc 30 = true := by decide +kernel
theorem jm_okc31 : jm_xc 31 = true := by decide +kernel
theorem jm_okc32 : jm_xc 32 = true := by decide +kernel
theorem jm_okc33 : jm_xc 33 = true := by decide +kernel
theorem jm_okc34 : jm_xc 34 = true := by decide +kernel
theorem jm_okc35 : jm_xc 35 = true := by decide +kernel
theorem jm_okc36 : jm_xc 36 = true := by decide +kernel
theorem jm_okc37 : jm_xc 37 = true := by decide +kernel
theorem jm_okc38 : jm_xc 38 = true := by decide +kernel
theorem jm_okc39 : jm_xc 39 = true := by decide +kernel
theorem jm_okc40 : jm_xc 40 = true := by decide +kernel
theorem jm_okc41 : jm_xc 41 = true := by decide +kernel
theorem jm_okc42 : jm_xc 42 = true := by decide +kernel
theorem jm_okc43 : jm_xc 43 = true := by decide +kernel
theorem jm_okc44 : jm_xc 44 = true := by decide +kernel
theorem jm_okc45 : jm_xc 45 = true := by decide +kernel
theorem jm_okc46 : jm_xc 46 = true := by decide +kernel
theorem jm_okc47 : jm_xc 47 = true := by decide +kernel
theorem jm_okc48 : jm_xc 48 = true := by decide +kernel
theorem jm_okc49 : jm_xc 49 = true := by decide +kernel
theorem jm_okc50 : jm_xc 50 = true := by decide +kernel
theorem jm_okc51 : jm_xc 51 = true := by decide +kernel
theorem jm_okc52 : jm_xc 52 = true := by decide +kernel
theorem jm_okc53 : jm_xc 53 = true := by decide +kernel
theorem jm_okc54 : jm_xc 54 = true := by decide +kernel
theorem jm_okc55 : jm_xc 55 = true := by decide +kernel
theorem jm_okc56 : jm_xc 56 = true := by decide +kernel
theorem jm_okc57 : jm_xc 57 = true := by decide +kernel
theorem jm_okc58 : jm_xc 58 = true := by decide +kernel
theorem jm_okc59 : jm_xc 59 = true := by decide +kernel
theorem jm_okc60 : jm_xc 60 = true := by decide +kernel
theorem jm_okc61 : jm_xc 61 = true := by decide +kernel
theorem jm_okc62 : jm_xc 62 = true := by decide +kernel
theorem jm_okc63 : jm_xc 63 = true := by decide +kernel
theorem jm_okc64 : jm_xc 64 = true := by decide +kernel
theorem jm_okc65 : jm_xc 65 = true := by decide +kernel
theorem jm_okc66 : jm_xc 66 = true := by decide +kernel
theorem jm_okc67 : jm_xc 67 = true := by decide +kernel
theorem jm_okc68 : jm_xc 68 = true := by decide +kernel
theorem jm_okc69 : jm_xc 69 = true := by decide +kernel
theorem jm_okc70 : jm_xc 70 = true := by decide +kernel
theorem jm_okc71 : jm_xc 71 = true := by decide +kernel
theorem jm_okc72 : jm_xc 72 = true := by decide +kernel
theorem jm_okc73 : jm_xc 73 = true := by decide +kernel
theorem jm_okc74 : jm_xc 74 = true := by decide +kernel
theorem jm_okc75 : jm_xc 75 = true := by decide +kernel
theorem jm_okc76 : jm_xc 76 = true := by decide +kernel
theorem jm_okc77 : jm_xc 77 = true := by decide +kernel
theorem jm_okc78 : jm_xc 78 = true := by decide +kernel
theorem jm_okc79 : jm_xc 79 = true := by decide +kernel
theorem jm_okc80 : jm_xc 80 = true := by decide +kernel
theorem jm_okc81 : jm_xc 81 = true := by decide +kernel
theorem jm_okc82 : jm_xc 82 = true := by decide +kernel
theorem jm_okc83 : jm_xc 83 = true := by decide +kernel
theorem jm_okc84 : jm_xc 84 = true := by decide +kernel
theorem jm_okc85 : jm_xc 85 = true := by decide +kernel
theorem jm_okc86 : jm_xc 86 = true := by decide +kernel
theorem jm_okc87 : jm_xc 87 = true := by decide +kernel
theorem jm_okc88 : jm_xc 88 = true := by decide +kernel
theorem jm_okc89 : jm_xc 89 = true := by decide +kernel
theorem jm_okc90 : jm_xc 90 = true := by decide +kernel
theorem jm_okc91 : jm_xc 91 = true := by decide +kernel
theorem jm_okc92 : jm_xc 92 = true := by decide +kernel
theorem jm_okc93 : jm_xc 93 = true := by decide +kernel
theorem jm_okc94 : jm_xc 94 = true := by decide +kernel
theorem jm_okc95 : jm_xc 95 = true := by decide +kernel
theorem jm_okc96 : jm_xc 96 = true := by decide +kernel
theorem jm_okc97 : jm_xc 97 = true := by decide +kernel
theorem jm_okc98 : jm_xc 98 = true := by decide +kernel
theorem jm_okc99 : jm_xc 99 = true := by decide +kernel
theorem jm_okc100 : jm_xc 100 = true := by decide +kernel
theorem jm_okc101 : jm_xc 101 = true := by decide +kernel
theorem jm_okc102 : jm_xc 102 = true := by decide +kernel
theorem jm_okc103 : jm_xc 103 = true := by decide +kernel
theorem jm_okc104 : jm_xc 104 = true := by decide +kernel
theorem jm_okc105 : jm_xc 105 = true := by decide +kernel
theorem jm_okc106 : jm_xc 106 = true := by decide +kernel
theorem jm_okc107 : jm_xc 107 = true := by decide +kernel
theorem jm_okc108 : jm_xc 108 = true := by decide +kernel
theorem jm_okc109 : jm_xc 109 = true := by decide +kernel
theorem jm_okc110 : jm_xc 110 = true := by decide +kernel
theorem jm_okc111 : jm_xc 111 = true := by decide +kernel
theorem jm_okc112 : jm_xc 112 = true := by decide +kernel
theorem jm_okc113 : jm_xc 113 = true := by decide +kernel
theorem jm_okc114 : jm_xc 114 = true := by decide +kernel
theorem jm_okc115 : jm_xc 115 = true := by decide +kernel
theorem jm_okc116 : jm_xc 116 = true := by decide +kernel
theorem jm_okc117 : jm_xc 117 = true := by decide +kernel
theorem jm_okc118 : jm_xc 118 = true := by decide +kernel
theorem jm_okc119 : jm_xc 119 = true := by decide +kernel
theorem jm_okc120 : jm_xc 120 = true := by decide +kernel
theorem jm_okc121 : jm_xc 121 = true := by decide +kernel
theorem jm_okc122 : jm_xc 122 = true := by decide +kernel
theorem jm_okc123 : jm_xc 123 = true := by decide +kernel
theorem jm_okc124 : jm_xc 124 = true := by decide +kernel
theorem jm_okc125 : jm_xc 125 = true := by decide +kernel
theorem jm_okc126 : jm_xc 126 = true := by decide +kernel
theorem jm_okc127 : jm_xc 127 = true := by decide +kernel
theorem jm_okc128 : jm_xc 128 = true := by decide +kernel
theorem jm_okc129 : jm_xc 129 = true := by decide +kernel
theorem jm_okc130 : jm_xc 130 = true := by decide +kernel
theorem jm_okc131 : jm_xc 131 = true := by decide +kernel
theorem jm_okc132 : jm_xc 132 = true := by decide +kernel
theorem jm_okc133 : jm_xc 133 = true := by decide +kernel
theorem jm_okc134 : jm_xc 134 = true := by decide +kernel
theorem jm_okc135 : jm_xc 135 = true := by decide +kernel
theorem jm_okc136 : jm_xc 136 = true := by decide +kernel
theorem jm_okc137 : jm_xc 137 = true := by decide +kernel
theorem jm_okc138 : jm_xc 138 = true := by decide +kernel
theorem jm_okc139 : jm_xc 139 = true := by decide +kernel
theorem jm_okc140 : jm_xc 140 = true := by decide +kernel
theorem jm_okc141 : jm_xc 141 = true := by decide +kernel
theorem jm_okc142 : jm_xc 142 = true := by decide +kernel
theorem jm_okc143 : jm_xc 143 = true := by decide +kernel
theorem jm_okc144 : jm_xc 144 = true := by decide +kernel
theorem jm_okc145 : jm_xc 145 = true := by decide +kernel
theorem jm_okc146 : jm_xc 146 = true := by decide +kernel
theorem jm_okc147 : jm_xc 147 = true := by decide +kernel
theorem jm_okc148 : jm_xc 148 = true := by decide +kernel
theorem jm_okc149 : jm_xc 149 = true := by decide +kernel
theorem jm_okc150 : jm_xc 150 = true := by decide +kernel
theorem jm_okc151 : jm_xc 151 = true := by decide +kernel
theorem jm_okc152 : jm_xc 152 = true := by decide +kernel
theorem jm_okc153 : jm_xc 153 = true := by decide +kernel
theorem jm_okc154 : jm_xc 154 = true := by decide +kernel
theorem jm_okc155 : jm_xc 155 = true := by decide +kernel
theorem jm_okc156 : jm_xc 156 = true := by decide +kernel
theorem jm_okc157 : jm_xc 157 = true := by decide +kernel
theorem jm_okc158 : jm_xc 158 = true := by decide +kernel
theorem jm_okc159 : jm_xc 159 = true := by decide +kernel
theorem jm_okc160 : jm_xc 160 = true := by decide +kernel
theorem jm_okc161 : jm_xc 161 = true := by decide +kernel
theorem jm_okc162 : jm_xc 162 = true := by decide +kernel
theorem jm_okc163 : jm_xc 163 = true := by decide +kernel
theorem jm_okc164 : jm_xc 164 = true := by decide +kernel
theorem jm_okc165 : jm_xc 165 = true := by decide +kernel
theorem jm_okc166 : jm_xc 166 = true := by decide +kernel
theorem jm_okc167 : jm_xc 167 = true := by decide +kernel
theorem jm_okc168 : jm_xc 168 = true := by decide +kernel
theorem jm_okc169 : jm_xc 169 = true := by decide +kernel
theorem jm_okc170 : jm_xc 170 = true := by decide +kernel
theorem jm_okc171 : jm_xc 171 = true := by decide +kernel
theorem jm_okc172 : jm_xc 172 = true := by decide +kernel
theorem jm_okc173 : jm_xc 173 = true := by decide +kernel
theorem jm_okc174 : jm_xc 174 = true := by decide +kernel
theorem jm_okc175 : jm_xc 175 = true := by decide +kernel
theorem jm_okc176 : jm_xc 176 = true := by decide +kernel
theorem jm_okc177 : jm_xc 177 = true := by decide +kernel
theorem jm_okc178 : jm_xc 178 = true := by decide +kernel
theorem jm_okc179 : jm_xc 179 = true := by decide +kernel
theorem jm_okc180 : jm_xc 180 = true := by decide +kernel
theorem jm_okc181 : jm_xc 181 = true := by decide +kernel
theorem jm_okc182 : jm_xc 182 = true := by decide +kernel
theorem jm_okc183 : jm_xc 183 = true := by decide +kernel
theorem jm_okc184 : jm_xc 184 = true := by decide +kernel
theorem jm_okc185 : jm_xc 185 = true := by decide +kernel
theorem jm_okc186 : jm_xc 186 = true := by decide +kernel
theorem jm_okc187 : jm_xc 187 = true := by decide +kernel
theorem jm_okc188 : jm_xc 188 = true := by decide +kernel
theorem jm_okc189 : jm_xc 189 = true := by decide +kernel
theorem jm_okc190 : jm_xc 190 = true := by decide +kernel
theorem jm_okc191 : jm_xc 191 = true := by decide +kernel
theorem jm_okc192 : jm_xc 192 = true := by decide +kernel
theorem jm_okc193 : jm_xc 193 = true := by decide +kernel
theorem jm_okc194 : jm_xc 194 = true := by decide +kernel
theorem jm_okc195 : jm_xc 195 = true := by decide +kernel
theorem jm_okc196 : jm_xc 196 = true := by decide +kernel
theorem jm_okc197 : jm_xc 197 = true := by decide +kernel
theorem jm_okc198 : jm_xc 198 = true := by decide +kernel
theorem jm_okc199 : jm_xc 199 = true := by decide +kernel
theorem jm_okc200 : jm_xc 200 = true := by decide +kernel
theorem jm_okc201 : jm_xc 201 = true := by decide +kernel
theorem jm_okc202 : jm_xc 202 = true := by decide +kernel
theorem jm_okc203 : jm_xc 203 = true := by decide +kernel
theorem jm_okc204 : jm_xc 204 = true := by decide +kernel
theorem jm_okc205 : jm_xc 205 = true := by decide +kernel
theorem jm_okc206 : jm_xc 206 = true := by decide +kernel
theorem jm_okc207 : jm_xc 207 = true := by decide +kernel
theorem jm_okc208 : jm_xc 208 = true := by decide +kernel
theorem jm_okc209 : jm_xc 209 = true := by decide +kernel
theorem jm_okc210 : jm_xc 210 = true := by decide +kernel
theorem jm_okc211 : jm_xc 211 = true := by decide +kernel
theorem jm_okc212 : jm_xc 212 = true := by decide +kernel
theorem jm_okc213 : jm_xc 213 = true := by decide +kernel
theorem jm_okc214 : jm_xc 214 = true := by decide +kernel
theorem jm_okc215 : jm_xc 215 = true := by decide +kernel
theorem jm_okc216 : jm_xc 216 = true := by decide +kernel
theorem jm_okc217 : jm_xc 217 = true := by decide +kernel
theorem jm_okc218 : jm_xc 218 = true := by decide +kernel
theorem jm_okc219 : jm_xc 219 = true := by decide +kernel
theorem jm_okc220 : jm_xc 220 = true := by decide +kernel
theorem jm_okc221 : jm_xc 221 = true := by decide +kernel
theorem jm_okc222 : jm_xc 222 = true := by decide +kernel
theorem jm_okc223 : jm_xc 223 = true := by decide +kernel
theorem jm_okc224 : jm_xc 224 = true := by decide +kernel
theorem jm_okc225 : jm_xc 225 = true := by decide +kernel
theorem jm_okc226 : jm_xc 226 = true := by decide +kernel
theorem jm_okc227 : jm_xc 227 = true := by decide +kernel
theorem jm_okc228 : jm_xc 228 = true := by decide +kernel
theorem jm_okc229 : jm_xc 229 = true := by decide +kernel
theorem jm_okc230 : jm_xc 230 = true := by decide +kernel
theorem jm_okc231 : jm_xc 231 = true := by decide +kernel
theorem jm_okc232 : jm_xc 232 = true := by decide +kernel
theorem jm_okc233 : jm_xc 233 = true := by decide +kernel
theorem jm_okc234 : jm_xc 234 = true := by decide +kernel
theorem jm_okc235 : jm_xc 235 = true := by decide +kernel
theorem jm_okc236 : jm_xc 236 = true := by decide +kernel
theorem jm_okc237 : jm_xc 237 = true := by decide +kernel
theorem jm_okc238 : jm_xc 238 = true := by decide +kernel
theorem jm_okc239 : jm_xc 239 = true := by decide +kernel
theorem jm_okc240 : jm_xc 240 = true := by decide +kernel
theorem jm_okc241 : jm_xc 241 = true := by decide +kernel
theorem jm_okc242 : jm_xc 242 = true := by decide +kernel
theorem jm_okc243 : jm_xc 243 = true := by decide +kernel
theorem jm_okc244 : jm_xc 244 = true := by decide +kernel
theorem jm_okc245 : jm_xc 245 = true := by decide +kernel
theorem jm_okc246 : jm_xc 246 = true := by decide +kernel
theorem jm_okc247 : jm_xc 247 = true := by decide +kernel
theorem jm_okc248 : jm_xc 248 = true := by decide +kernel
theorem jm_okc249 : jm_xc 249 = true := by decide +kernel
theorem jm_okc250 : jm_xc 250 = true := by decide +kernel
theorem jm_okc251 : jm_xc 251 = true := by decide +kernel
theorem jm_okc252 : jm_xc 252 = true := by decide +kernel
theorem jm_okc253 : jm_xc 253 = true := by decide +kernel
theorem jm_okc254 : jm_xc 254 = true := by decide +kernel
end
section
def jm_c255_0 : List (Nat × Instr) := [(0, .new 7), (3, .dup), (4, .invokespecial 9), (7, .astore_n 1), (8, .new 10), (11, .dup), (12, .invokespecial 12), (15, .astore_n 2), (16, .iconst 0), (17, .istore_n 3), (18, .iload_n 3), (19, .aload_n 0), (20, .arraylength), (21, .bipush 6), (23, .isub), (24, .if_icmp .gt 1313), (27, .aload_n 0), (28, .iload_n 3), (29, .iaload), (30, .bipush 31), (32, .iand), (33, .tableswitch 1298 0 27 #[127, 190, 213, 226, 239, 272, 331, 344, 357, 410, 473, 536, 579, 642, 695, 748, 801, 864, 917, 980, 1003, 1056, 1120, 1153, 1196, 1229, 1252, 1275]), (160, .aload_n 1), (161, .aload_n 0), (162, .iload_n 3), (163, .iconst 1), (164, .iadd), (165, .iaload), (166, .aload_n 0), (167, .iload_n 3), (168, .iconst 2), (169, .iadd), (170, .iaload), (171, .aload_n 0), (172, .iload_n 3), (173, .iconst 3), (174, .iadd), (175, .iaload), (176, .aload_n 0), (177, .iload_n 3), (178, .iconst 4), (179, .iadd), (180, .iaload), (181, .aload_n 0), (182, .iload_n 3), (183, .iconst 5), (184, .iadd), (185, .iaload), (186, .invokevirtual 13), (189, .aload_n 2), (190, .aload_n 0), (191, .iload_n 3), (192, .iconst 1), (193, .iadd), (194, .iaload), (195, .aload_n 0), (196, .iload_n 3), (197, .iconst 2), (198, .iadd), (199, .iaload)]
theorem jm_okc255_0 : jm_c255_0.all (jm_xi 255) = true := by decide +kernel
def jm_c255_1 : List (Nat × Instr) := [(200, .aload_n 0), (201, .iload_n 3), (202, .iconst 3), (203, .iadd), (204, .iaload), (205, .aload_n 0), (206, .iload_n 3), (207, .iconst 4), (208, .iadd), (209, .iaload), (210, .aload_n 0), (211, .iload_n 3), (212, .iconst 5), (213, .iadd), (214, .iaload), (215, .invokevirtual 17), (218, .if_icmp .eq 1113), (221, .iconst 0), (222, .ireturn), (223, .aload_n 1), (224, .aload_n 0), (225, .iload_n 3), (226, .iconst 1), (227, .iadd), (228, .iaload), (229, .invokevirtual 18), (232, .aload_n 2), (233, .aload_n 0), (234, .iload_n 3), (235, .iconst 1), (236, .iadd), (237, .iaload), (238, .invokevirtual 22), (241, .if_icmp .eq 1090), (244, .iconst 0), (245, .ireturn), (246, .aload_n 1), (247, .invokevirtual 23), (250, .aload_n 2), (251, .invokevirtual 27), (254, .if_icmp .eq 1077), (257, .iconst 0), (258, .ireturn), (259, .aload_n 1), (260, .invokevirtual 28), (263, .aload_n 2), (264, .invokevirtual 31), (267, .if_icmp .eq 1064), (270, .iconst 0), (271, .ireturn), (272, .aload_n 1), (273, .aload_n 0), (274, .iload_n 3), (275, .iconst 1), (276, .iadd), (277, .iaload), (278, .aload_n 0), (279, .iload_n 3), (280, .iconst 2), (281, .iadd)]
theorem jm_okc255_1 : jm_c255_1.all (jm_xi 255) = true := by decide +kernel
def jm_c255_2 : List (Nat × Instr) := [(282, .iaload), (283, .invokevirtual 32), (286, .aload_n 2), (287, .aload_n 0), (288, .iload_n 3), (289, .iconst 1), (290, .iadd), (291, .iaload), (292, .aload_n 0), (293, .iload_n 3), (294, .iconst 2), (295, .iadd), (296, .iaload), (297, .invokevirtual 36), (300, .if_icmp .eq 1031), (303, .iconst 0), (304, .ireturn), (305, .aload_n 1), (306, .aload_n 0), (307, .iload_n 3), (308, .iconst 1), (309, .iadd), (310, .iaload), (311, .aload_n 0), (312, .iload_n 3), (313, .iconst 2), (314, .iadd), (315, .iaload), (316, .aload_n 0), (317, .iload_n 3), (318, .iconst 3), (319, .iadd), (320, .iaload), (321, .ifCond .eq 7), (324, .iconst 1), (325, .goto 4), (328, .iconst 0), (329, .invokevirtual 37), (332, .aload_n 2), (333, .aload_n 0), (334, .iload_n 3), (335, .iconst 1), (336, .iadd), (337, .iaload), (338, .aload_n 0), (339, .iload_n 3), (340, .iconst 2), (341, .iadd), (342, .iaload), (343, .aload_n 0), (344, .iload_n 3), (345, .iconst 3), (346, .iadd), (347, .iaload), (348, .ifCond .eq 7), (351, .iconst 1), (352, .goto 4), (355, .iconst 0), (356, .invokevirtual 41), (359, .if_icmp .eq 972)]
theorem jm_okc255_2 : jm_c255_2.all (jm_xi 255) = true := by decide +kernel
def jm_c255_3 : List (Nat × Instr) := [(362, .iconst 0), (363, .ireturn), (364, .aload_n 1), (365, .invokevirtual 42), (368, .aload_n 2), (369, .invokevirtual 46), (372, .if_icmp .eq 959), (375, .iconst 0), (376, .ireturn), (377, .aload_n 1), (378, .invokevirtual 47), (381, .aload_n 2), (382, .invokevirtual 50), (385, .if_icmp .eq 946), (388, .iconst 0), (389, .ireturn), (390, .aload_n 1), (391, .aload_n 0), (392, .iload_n 3), (393, .iconst 1), (394, .iadd), (395, .iaload), (396, .aload_n 0), (397, .iload_n 3), (398, .iconst 2), (399, .iadd), (400, .iaload), (401, .aload_n 0), (402, .iload_n 3), (403, .iconst 3), (404, .iadd), (405, .iaload), (406, .aload_n 0), (407, .iload_n 3), (408, .iconst 4), (409, .iadd), (410, .iaload), (411, .invokevirtual 51), (414, .aload_n 2), (415, .aload_n 0), (416, .iload_n 3), (417, .iconst 1), (418, .iadd), (419, .iaload), (420, .aload_n 0), (421, .iload_n 3), (422, .iconst 2), (423, .iadd), (424, .iaload), (425, .aload_n 0), (426, .iload_n 3), (427, .iconst 3), (428, .iadd), (429, .iaload), (430, .aload_n 0), (431, .iload_n 3), (432, .iconst 4), (433, .iadd), (434, .iaload), (435, .invokevirtual 55)]
theorem jm_okc255_3 : jm_c255_3.all (jm_xi 255) = true := by decide +kernel
def jm_c255_4 : List (Nat × Instr) := [(438, .if_icmp .eq 893), (441, .iconst 0), (442, .ireturn), (443, .aload_n 1), (444, .aload_n 0), (445, .iload_n 3), (446, .iconst 1), (447, .iadd), (448, .iaload), (449, .aload_n 0), (450, .iload_n 3), (451, .iconst 2), (452, .iadd), (453, .iaload), (454, .aload_n 0), (455, .iload_n 3), (456, .iconst 3), (457, .iadd), (458, .iaload), (459, .aload_n 0), (460, .iload_n 3), (461, .iconst 4), (462, .iadd), (463, .iaload), (464, .aload_n 0), (465, .iload_n 3), (466, .iconst 5), (467, .iadd), (468, .iaload), (469, .invokevirtual 56), (472, .aload_n 2), (473, .aload_n 0), (474, .iload_n 3), (475, .iconst 1), (476, .iadd), (477, .iaload), (478, .aload_n 0), (479, .iload_n 3), (480, .iconst 2), (481, .iadd), (482, .iaload), (483, .aload_n 0), (484, .iload_n 3), (485, .iconst 3), (486, .iadd), (487, .iaload), (488, .aload_n 0), (489, .iload_n 3), (490, .iconst 4), (491, .iadd), (492, .iaload), (493, .aload_n 0), (494, .iload_n 3), (495, .iconst 5), (496, .iadd), (497, .iaload), (498, .invokevirtual 59), (501, .if_icmp .eq 830), (504, .iconst 0), (505, .ireturn)]
theorem jm_okc255_4 : jm_c255_4.all (jm_xi 255) = true := by decide +kernel
def jm_c255_5 : List (Nat × Instr) := [(506, .aload_n 1), (507, .aload_n 0), (508, .iload_n 3), (509, .iconst 1), (510, .iadd), (511, .iaload), (512, .aload_n 0), (513, .iload_n 3), (514, .iconst 2), (515, .iadd), (516, .iaload), (517, .aload_n 0), (518, .iload_n 3), (519, .iconst 3), (520, .iadd), (521, .iaload), (522, .aload_n 0), (523, .iload_n 3), (524, .iconst 4), (525, .iadd), (526, .iaload), (527, .aload_n 0), (528, .iload_n 3), (529, .iconst 5), (530, .iadd), (531, .iaload), (532, .invokevirtual 60), (535, .aload_n 2), (536, .aload_n 0), (537, .iload_n 3), (538, .iconst 1), (539, .iadd), (540, .iaload), (541, .aload_n 0), (542, .iload_n 3), (543, .iconst 2), (544, .iadd), (545, .iaload), (546, .aload_n 0), (547, .iload_n 3), (548, .iconst 3), (549, .iadd), (550, .iaload), (551, .aload_n 0), (552, .iload_n 3), (553, .iconst 4), (554, .iadd), (555, .iaload), (556, .aload_n 0), (557, .iload_n 3), (558, .iconst 5), (559, .iadd), (560, .iaload), (561, .invokevirtual 63), (564, .if_icmp .eq 767), (567, .iconst 0), (568, .ireturn), (569, .aload_n 1), (570, .aload_n 0), (571, .iload_n 3)]
theorem jm_okc255_5 : jm_c255_5.all (jm_xi 255) = true := by decide +kernel
def jm_c255_6 : List (Nat × Instr) := [(572, .iconst 1), (573, .iadd), (574, .iaload), (575, .aload_n 0), (576, .iload_n 3), (577, .iconst 2), (578, .iadd), (579, .iaload), (580, .aload_n 0), (581, .iload_n 3), (582, .iconst 3), (583, .iadd), (584, .iaload), (585, .invokevirtual 64), (588, .aload_n 2), (589, .aload_n 0), (590, .iload_n 3), (591, .iconst 1), (592, .iadd), (593, .iaload), (594, .aload_n 0), (595, .iload_n 3), (596, .iconst 2), (597, .iadd), (598, .iaload), (599, .aload_n 0), (600, .iload_n 3), (601, .iconst 3), (602, .iadd), (603, .iaload), (604, .invokevirtual 68), (607, .if_icmp .eq 724), (610, .iconst 0), (611, .ireturn), (612, .aload_n 1), (613, .aload_n 0), (614, .iload_n 3), (615, .iconst 1), (616, .iadd), (617, .iaload), (618, .aload_n 0), (619, .iload_n 3), (620, .iconst 2), (621, .iadd), (622, .iaload), (623, .aload_n 0), (624, .iload_n 3), (625, .iconst 3), (626, .iadd), (627, .iaload), (628, .aload_n 0), (629, .iload_n 3), (630, .iconst 4), (631, .iadd), (632, .iaload), (633, .aload_n 0), (634, .iload_n 3), (635, .iconst 5), (636, .iadd), (637, .iaload)]
theorem jm_okc255_6 : jm_c255_6.all (jm_xi 255) = true := by decide +kernel
def jm_c255_7 : List (Nat × Instr) := [(638, .invokevirtual 69), (641, .aload_n 2), (642, .aload_n 0), (643, .iload_n 3), (644, .iconst 1), (645, .iadd), (646, .iaload), (647, .aload_n 0), (648, .iload_n 3), (649, .iconst 2), (650, .iadd), (651, .iaload), (652, .aload_n 0), (653, .iload_n 3), (654, .iconst 3), (655, .iadd), (656, .iaload), (657, .aload_n 0), (658, .iload_n 3), (659, .iconst 4), (660, .iadd), (661, .iaload), (662, .aload_n 0), (663, .iload_n 3), (664, .iconst 5), (665, .iadd), (666, .iaload), (667, .invokevirtual 72), (670, .if_icmp .eq 661), (673, .iconst 0), (674, .ireturn), (675, .aload_n 1), (676, .aload_n 0), (677, .iload_n 3), (678, .iconst 1), (679, .iadd), (680, .iaload), (681, .aload_n 0), (682, .iload_n 3), (683, .iconst 2), (684, .iadd), (685, .iaload), (686, .aload_n 0), (687, .iload_n 3), (688, .iconst 3), (689, .iadd), (690, .iaload), (691, .aload_n 0), (692, .iload_n 3), (693, .iconst 4), (694, .iadd), (695, .iaload), (696, .invokevirtual 73), (699, .aload_n 2), (700, .aload_n 0), (701, .iload_n 3), (702, .iconst 1), (703, .iadd), (704, .iaload), (705, .aload_n 0)]
theorem jm_okc255_7 : jm_c255_7.all (jm_xi 255) = true := by decide +kernel
def jm_c255_8 : List (Nat × Instr) := [(706, .iload_n 3), (707, .iconst 2), (708, .iadd), (709, .iaload), (710, .aload_n 0), (711, .iload_n 3), (712, .iconst 3), (713, .iadd), (714, .iaload), (715, .aload_n 0), (716, .iload_n 3), (717, .iconst 4), (718, .iadd), (719, .iaload), (720, .invokevirtual 76), (723, .if_icmp .eq 608), (726, .iconst 0), (727, .ireturn), (728, .aload_n 1), (729, .aload_n 0), (730, .iload_n 3), (731, .iconst 1), (732, .iadd), (733, .iaload), (734, .aload_n 0), (735, .iload_n 3), (736, .iconst 2), (737, .iadd), (738, .iaload), (739, .aload_n 0), (740, .iload_n 3), (741, .iconst 3), (742, .iadd), (743, .iaload), (744, .aload_n 0), (745, .iload_n 3), (746, .iconst 4), (747, .iadd), (748, .iaload), (749, .invokevirtual 77), (752, .aload_n 2), (753, .aload_n 0), (754, .iload_n 3), (755, .iconst 1), (756, .iadd), (757, .iaload), (758, .aload_n 0), (759, .iload_n 3), (760, .iconst 2), (761, .iadd), (762, .iaload), (763, .aload_n 0), (764, .iload_n 3), (765, .iconst 3), (766, .iadd), (767, .iaload), (768, .aload_n 0), (769, .iload_n 3), (770, .iconst 4), (771, .iadd)]
theorem jm_okc255_8 : jm_c255_8.all (jm_xi 255) = true := by decide +kernel
def jm_c255_9 : List (Nat × Instr) := [(772, .iaload), (773, .invokevirtual 80), (776, .if_icmp .eq 555), (779, .iconst 0), (780, .ireturn), (781, .aload_n 1), (782, .aload_n 0), (783, .iload_n 3), (784, .iconst 1), (785, .iadd), (786, .iaload), (787, .aload_n 0), (788, .iload_n 3), (789, .iconst 2), (790, .iadd), (791, .iaload), (792, .aload_n 0), (793, .iload_n 3), (794, .iconst 3), (795, .iadd), (796, .iaload), (797, .aload_n 0), (798, .iload_n 3), (799, .iconst 4), (800, .iadd), (801, .iaload), (802, .invokevirtual 81), (805, .aload_n 2), (806, .aload_n 0), (807, .iload_n 3), (808, .iconst 1), (809, .iadd), (810, .iaload), (811, .aload_n 0), (812, .iload_n 3), (813, .iconst 2), (814, .iadd), (815, .iaload), (816, .aload_n 0), (817, .iload_n 3), (818, .iconst 3), (819, .iadd), (820, .iaload), (821, .aload_n 0), (822, .iload_n 3), (823, .iconst 4), (824, .iadd), (825, .iaload), (826, .invokevirtual 84), (829, .if_icmp .eq 502), (832, .iconst 0), (833, .ireturn), (834, .aload_n 1), (835, .aload_n 0), (836, .iload_n 3), (837, .iconst 1), (838, .iadd), (839, .iaload), (840, .aload_n 0), (841, .iload_n 3)]
theorem jm_okc255_9 : jm_c255_9.all (jm_xi 255) = true := by decide +kernel
def jm_c255_10 : List (Nat × Instr) := [(842, .iconst 2), (843, .iadd), (844, .iaload), (845, .aload_n 0), (846, .iload_n 3), (847, .iconst 3), (848, .iadd), (849, .iaload), (850, .aload_n 0), (851, .iload_n 3), (852, .iconst 4), (853, .iadd), (854, .iaload), (855, .aload_n 0), (856, .iload_n 3), (857, .iconst 5), (858, .iadd), (859, .iaload), (860, .invokevirtual 85), (863, .aload_n 2), (864, .aload_n 0), (865, .iload_n 3), (866, .iconst 1), (867, .iadd), (868, .iaload), (869, .aload_n 0), (870, .iload_n 3), (871, .iconst 2), (872, .iadd), (873, .iaload), (874, .aload_n 0), (875, .iload_n 3), (876, .iconst 3), (877, .iadd), (878, .iaload), (879, .aload_n 0), (880, .iload_n 3), (881, .iconst 4), (882, .iadd), (883, .iaload), (884, .aload_n 0), (885, .iload_n 3), (886, .iconst 5), (887, .iadd), (888, .iaload), (889, .invokevirtual 88), (892, .if_icmp .eq 439), (895, .iconst 0), (896, .ireturn), (897, .aload_n 1), (898, .aload_n 0), (899, .iload_n 3), (900, .iconst 1), (901, .iadd), (902, .iaload), (903, .aload_n 0), (904, .iload_n 3), (905, .iconst 2), (906, .iadd), (907, .iaload)]
theorem jm_okc255_10 : jm_c255_10.all (jm_xi 255) = true := by decide +kernel
def jm_c255_11 : List (Nat × Instr) := [(908, .aload_n 0), (909, .iload_n 3), (910, .iconst 3), (911, .iadd), (912, .iaload), (913, .aload_n 0), (914, .iload_n 3), (915, .iconst 4), (916, .iadd), (917, .iaload), (918, .invokevirtual 89), (921, .aload_n 2), (922, .aload_n 0), (923, .iload_n 3), (924, .iconst 1), (925, .iadd), (926, .iaload), (927, .aload_n 0), (928, .iload_n 3), (929, .iconst 2), (930, .iadd), (931, .iaload), (932, .aload_n 0), (933, .iload_n 3), (934, .iconst 3), (935, .iadd), (936, .iaload), (937, .aload_n 0), (938, .iload_n 3), (939, .iconst 4), (940, .iadd), (941, .iaload), (942, .invokevirtual 92), (945, .if_icmp .eq 386), (948, .iconst 0), (949, .ireturn), (950, .aload_n 1), (951, .aload_n 0), (952, .iload_n 3), (953, .iconst 1), (954, .iadd), (955, .iaload), (956, .aload_n 0), (957, .iload_n 3), (958, .iconst 2), (959, .iadd), (960, .iaload), (961, .aload_n 0), (962, .iload_n 3), (963, .iconst 3), (964, .iadd), (965, .iaload), (966, .aload_n 0), (967, .iload_n 3), (968, .iconst 4), (969, .iadd), (970, .iaload), (971, .aload_n 0), (972, .iload_n 3), (973, .iconst 5)]
theorem jm_okc255_11 : jm_c255_11.all (jm_xi 255) = true := by decide +kernel
def jm_c255_12 : List (Nat × Instr) := [(974, .iadd), (975, .iaload), (976, .invokevirtual 93), (979, .aload_n 2), (980, .aload_n 0), (981, .iload_n 3), (982, .iconst 1), (983, .iadd), (984, .iaload), (985, .aload_n 0), (986, .iload_n 3), (987, .iconst 2), (988, .iadd), (989, .iaload), (990, .aload_n 0), (991, .iload_n 3), (992, .iconst 3), (993, .iadd), (994, .iaload), (995, .aload_n 0), (996, .iload_n 3), (997, .iconst 4), (998, .iadd), (999, .iaload), (1000, .aload_n 0), (1001, .iload_n 3), (1002, .iconst 5), (1003, .iadd), (1004, .iaload), (1005, .invokevirtual 96), (1008, .if_icmp .eq 323), (1011, .iconst 0), (1012, .ireturn), (1013, .aload_n 1), (1014, .aload_n 0), (1015, .iload_n 3), (1016, .iconst 1), (1017, .iadd), (1018, .iaload), (1019, .invokevirtual 97), (1022, .aload_n 2), (1023, .aload_n 0), (1024, .iload_n 3), (1025, .iconst 1), (1026, .iadd), (1027, .iaload), (1028, .invokevirtual 100), (1031, .if_icmp .eq 300), (1034, .iconst 0), (1035, .ireturn), (1036, .aload_n 1), (1037, .aload_n 0), (1038, .iload_n 3), (1039, .iconst 1), (1040, .iadd), (1041, .iaload), (1042, .aload_n 0), (1043, .iload_n 3), (1044, .iconst 2), (1045, .iadd)]
theorem jm_okc255_12 : jm_c255_12.all (jm_xi 255) = true := by decide +kernel
def jm_c255_13 : List (Nat × Instr) := [(1046, .iaload), (1047, .aload_n 0), (1048, .iload_n 3), (1049, .iconst 3), (1050, .iadd), (1051, .iaload), (1052, .aload_n 0), (1053, .iload_n 3), (1054, .iconst 4), (1055, .iadd), (1056, .iaload), (1057, .invokevirtual 101), (1060, .aload_n 2), (1061, .aload_n 0), (1062, .iload_n 3), (1063, .iconst 1), (1064, .iadd), (1065, .iaload), (1066, .aload_n 0), (1067, .iload_n 3), (1068, .iconst 2), (1069, .iadd), (1070, .iaload), (1071, .aload_n 0), (1072, .iload_n 3), (1073, .iconst 3), (1074, .iadd), (1075, .iaload), (1076, .aload_n 0), (1077, .iload_n 3), (1078, .iconst 4), (1079, .iadd), (1080, .iaload), (1081, .invokevirtual 104), (1084, .if_icmp .eq 247), (1087, .iconst 0), (1088, .ireturn), (1089, .aload_n 1), (1090, .aload_n 0), (1091, .iload_n 3), (1092, .iconst 1), (1093, .iadd), (1094, .iaload), (1095, .aload_n 0), (1096, .iload_n 3), (1097, .iconst 2), (1098, .iadd), (1099, .iaload), (1100, .aload_n 0), (1101, .iload_n 3), (1102, .iconst 3), (1103, .iadd), (1104, .iaload), (1105, .aload_n 0), (1106, .iload_n 3), (1107, .iconst 4), (1108, .iadd), (1109, .iaload), (1110, .aload_n 0), (1111, .iload_n 3)]
theorem jm_okc255_13 : jm_c255_13.all (jm_xi 255) = true := by decide +kernel
def jm_c255_14 : List (Nat × Instr) := [(1112, .iconst 5), (1113, .iadd), (1114, .iaload), (1115, .invokevirtual 105), (1118, .aload_n 2), (1119, .aload_n 0), (1120, .iload_n 3), (1121, .iconst 1), (1122, .iadd), (1123, .iaload), (1124, .aload_n 0), (1125, .iload_n 3), (1126, .iconst 2), (1127, .iadd), (1128, .iaload), (1129, .aload_n 0), (1130, .iload_n 3), (1131, .iconst 3), (1132, .iadd), (1133, .iaload), (1134, .aload_n 0), (1135, .iload_n 3), (1136, .iconst 4), (1137, .iadd), (1138, .iaload), (1139, .aload_n 0), (1140, .iload_n 3), (1141, .iconst 5), (1142, .iadd), (1143, .iaload), (1144, .invokevirtual 109), (1147, .lcmp), (1148, .ifCond .eq 183), (1151, .iconst 0), (1152, .ireturn), (1153, .aload_n 1), (1154, .aload_n 0), (1155, .iload_n 3), (1156, .iconst 1), (1157, .iadd), (1158, .iaload), (1159, .aload_n 0), (1160, .iload_n 3), (1161, .iconst 2), (1162, .iadd), (1163, .iaload), (1164, .invokevirtual 110), (1167, .aload_n 2), (1168, .aload_n 0), (1169, .iload_n 3), (1170, .iconst 1), (1171, .iadd), (1172, .iaload), (1173, .aload_n 0), (1174, .iload_n 3), (1175, .iconst 2), (1176, .iadd), (1177, .iaload), (1178, .invokevirtual 114), (1181, .if_icmp .eq 150)]
theorem jm_okc255_14 : jm_c255_14.all (jm_xi 255) = true := by decide +kernel
def jm_c255_15 : List (Nat × Instr) := [(1184, .iconst 0), (1185, .ireturn), (1186, .aload_n 1), (1187, .aload_n 0), (1188, .iload_n 3), (1189, .iconst 1), (1190, .iadd), (1191, .iaload), (1192, .aload_n 0), (1193, .iload_n 3), (1194, .iconst 2), (1195, .iadd), (1196, .iaload), (1197, .aload_n 0), (1198, .iload_n 3), (1199, .iconst 3), (1200, .iadd), (1201, .iaload), (1202, .invokevirtual 115), (1205, .aload_n 2), (1206, .aload_n 0), (1207, .iload_n 3), (1208, .iconst 1), (1209, .iadd), (1210, .iaload), (1211, .aload_n 0), (1212, .iload_n 3), (1213, .iconst 2), (1214, .iadd), (1215, .iaload), (1216, .aload_n 0), (1217, .iload_n 3), (1218, .iconst 3), (1219, .iadd), (1220, .iaload), (1221, .invokevirtual 118), (1224, .if_icmp .eq 107), (1227, .iconst 0), (1228, .ireturn), (1229, .aload_n 1), (1230, .aload_n 0), (1231, .iload_n 3), (1232, .iconst 1), (1233, .iadd), (1234, .iaload), (1235, .aload_n 0), (1236, .iload_n 3), (1237, .iconst 2), (1238, .iadd), (1239, .iaload), (1240, .invokevirtual 119), (1243, .aload_n 2), (1244, .aload_n 0), (1245, .iload_n 3), (1246, .iconst 1), (1247, .iadd), (1248, .iaload), (1249, .aload_n 0), (1250, .iload_n 3), (1251, .iconst 2)]
theorem jm_okc255_15 : jm_c255_15.all (jm_xi 255) = true := by decide +kernel
def jm_c255_16 : List (Nat × Instr) := [(1252, .iadd), (1253, .iaload), (1254, .invokevirtual 122), (1257, .if_icmp .eq 74), (1260, .iconst 0), (1261, .ireturn), (1262, .aload_n 1), (1263, .aload_n 0), (1264, .iload_n 3), (1265, .iconst 1), (1266, .iadd), (1267, .iaload), (1268, .invokevirtual 123), (1271, .aload_n 2), (1272, .aload_n 0), (1273, .iload_n 3), (1274, .iconst 1), (1275, .iadd), (1276, .iaload), (1277, .invokevirtual 127), (1280, .if_icmp .eq 51), (1283, .iconst 0), (1284, .ireturn), (1285, .aload_n 1), (1286, .aload_n 0), (1287, .iload_n 3), (1288, .iconst 1), (1289, .iadd), (1290, .iaload), (1291, .invokevirtual 128), (1294, .aload_n 2), (1295, .aload_n 0), (1296, .iload_n 3), (1297, .iconst 1), (1298, .iadd), (1299, .iaload), (1300, .invokevirtual 131), (1303, .if_icmp .eq 28), (1306, .iconst 0), (1307, .ireturn), (1308, .aload_n 1), (1309, .aload_n 0), (1310, .iload_n 3), (1311, .iconst 1), (1312, .iadd), (1313, .iaload), (1314, .invokevirtual 132), (1317, .aload_n 2), (1318, .aload_n 0), (1319, .iload_n 3), (1320, .iconst 1), (1321, .iadd), (1322, .iaload), (1323, .invokevirtual 135), (1326, .if_icmp .eq 5), (1329, .iconst 0), (1330, .ireturn), (1331, .iinc 3 6), (1334, .goto (-1316)), (1337, .iconst 1)]
theorem jm_okc255_16 : jm_c255_16.all (jm_xi 255) = true := by decide +kernel
def jm_c255_17 : List (Nat × Instr) := [(1338, .ireturn)]
theorem jm_okc255_17 : jm_c255_17.all (jm_xi 255) = true := by decide +kernel
set_option maxRecDepth 100000 in
theorem jm_okc255 : jm_xc 255 = true := by
  show jm_c255.all (jm_xi 255) = true
  rw [show jm_c255 = jm_c255_0 ++ (jm_c255_1 ++ (jm_c255_2 ++ (jm_c255_3 ++ (jm_c255_4 ++ (jm_c255_5 ++ (jm_c255_6 ++ (jm_c255_7 ++ (jm_c255_8 ++ (jm_c255_9 ++ (jm_c255_10 ++ (jm_c255_11 ++ (jm_c255_12 ++ (jm_c255_13 ++ (jm_c255_14 ++ (jm_c255_15 ++ (jm_c255_16 ++ (jm_c255_17))))))))))))))))) from rfl]
  simp only [List.all_append, jm_okc255_0, jm_okc255_1, jm_okc255_2, jm_okc255_3, jm_okc255_4, jm_okc255_5, jm_okc255_6, jm_okc255_7, jm_okc255_8, jm_okc255_9, jm_okc255_10, jm_okc255_11, jm_okc255_12, jm_okc255_13, jm_okc255_14, jm_okc255_15, jm_okc255_16, jm_okc255_17, Bool.and_true]
end
section
/-! the interpreter -/
/-- the heap's instructions, and an array of objects made by a class's own pool number (which 'new' shares) -/
def jm_hq (S : Option (Nat × (Nat → Int32))) (ins : Instr) (e : Nat × Nat × Nat × Int) (st : List Value) (H : jm_H) : Option (List Value × jm_H) := match jm_hp S ins e st H with
  | some y => some y
  | none => match ins, st with
    | .anewarray _, .int n :: q => if e.1 = 6 ∧ ¬ n < 0 ∧ n.toNatClampNeg ≤ 60000000 ∧ (e.2.1 = 6 ∨ e.2.1 = 5) then some (.ref (jm_n H + 2) :: q, jm_mk H (if e.2.1 = 6 then 104 else 105) n.toNatClampNeg n.toNatClampNeg) else none
    | _, _ => none
def jm_ev (S : Option (Nat × (Nat → Int32))) : Nat → Nat → Nat → Nat → List Value → List Value → jm_H → Option (Option Value × jm_H)
  | 0, _, _, _, _, _, _ => none
  | n + 1, D, mi, pc, ls, st, H => match jm_at mi pc with
    | none => none
    | some ins => match jm_kd ins with
      | 0 => (match jm_alu ins st with | none => none | some st' => jm_ev S n D mi (pc + jm_len ins) ls st' H)
      | 1 => (match jm_loc ins ls st with | none => none | some x => jm_ev S n D mi (pc + jm_len ins) x.1 x.2 H)
      | 2 => (match jm_br ins pc st with | none => none | some x => jm_ev S n D mi x.1 ls x.2 H)
      | 3 => (match jm_hq S ins (jm_rv mi ins) st H with | none => none | some x => jm_ev S n D mi (pc + jm_len ins) ls x.1 x.2)
      | 4 => (match jm_rt (jm_ret mi) ins st with | none => none | some r => some (r, H))
      | _ => (match jm_cl ins (jm_rv mi ins) st H with
        | none => none
        | some x => match x.1 with
          | none => jm_ev S n D mi (pc + 3) ls x.2 H
          | some as => if jm_rk (jm_rv mi ins).2.1 as < D ∧ (jm_en (jm_rv mi ins).2.1 as).length = jm_mx (jm_rv mi ins).2.1 then (match jm_ev S n (jm_rk (jm_rv mi ins).2.1 as) (jm_rv mi ins).2.1 0 (jm_en (jm_rv mi ins).2.1 as) [] H with
            | none => none
            | some y => jm_ev S n D mi (pc + 3) ls (y.1.toList ++ x.2) y.2) else none)
end
section
def jm_gw (w : Jvm.Cond) : Bool := match w with
  | .methodLinkNest _ _ _ _ => true
  | .arrayOver (.object _) => true
  | _ => false
/-- the words that last while the program runs -/
def jm_tb : List Jvm.Cond := lw_tbl.filter (fun w => goodWord w || jm_gw w)
theorem jm_tb_in {w : Jvm.Cond} (h : w ∈ lw_tbl) (hg : (goodWord w || jm_gw w) = true) : w ∈ jm_tb := List.mem_filter.mpr ⟨h, hg⟩
theorem jm_tb_of {w : Jvm.Cond} (h : w ∈ jm_tb) : w ∈ lw_tbl ∧ (goodWord w || jm_gw w) = true := List.mem_filter.mp h
/-! The abstract heap against the machine's: object r lies at jm_ad r; what stands below 'base' is as it was. -/
def jm_ad (base b r : Nat) : Nat := if r = 1 then b else base + (r - 2)
def jm_cv (base b : Nat) : Value → Value
  | .ref r => .ref (jm_ad base b r)
  | v => v
theorem jm_cv_cat (base b : Nat) (v : Value) : (jm_cv base b v).category = v.category := by cases v <;> rfl
theorem jm_v2_cat {v : Value} (h : ¬ jm_v2 v = true) : v.category = 1 := by cases v <;> first | rfl | exact absurd rfl h
theorem jm_v2_cat2 {v : Value} (h : jm_v2 v = true) : v.category = 2 := by cases v <;> first | rfl | (simp [jm_v2] at h)
theorem jm_cat_v2 {v : Value} (h : v.category = 2) : jm_v2 v = true := by cases v <;> first | rfl | (simp [Value.category] at h)
theorem jm_cs_cv (base b : Nat) (st : List Value) : ((st.map (jm_cv base b)).map fun v => v.category).sum = jm_cs st := by
  unfold jm_cs
  rw [List.map_map]
  congr 1
  apply List.map_congr_left
  intro v _
  exact jm_cv_cat base b v
theorem jm_lkp {α : Type} {x : Nat} : ∀ {l : List (Nat × α)} {y : α}, l.lookup x = some y → (x, y) ∈ l
  | [], y, h => by cases h
  | (k, v) :: l, y, h => by
    rw [List.lookup_cons] at h
    split at h
    next e =>
      cases h
      have : x = k := by simpa using e
      subst this
      exact List.mem_cons_self
    next e => exact List.mem_cons_of_mem _ (jm_lkp h)
/-! locals -/
def jm_ll (base b : Nat) (ls : List Value) : List (Nat × Value) := (List.range ls.length).filterMap (fun k => match ls[k]? with | some (Value.null) => none | some v => some (k, jm_cv base b v) | none => none)
theorem jm_ll_in {base b : Nat} {ls : List Value} {k : Nat} {v : Value} (h : ls[k]? = some v) (hn : v ≠ .null) : (k, jm_cv base b v) ∈ jm_ll base b ls := by
  refine List.mem_filterMap.mpr ⟨k, List.mem_range.mpr (List.getElem?_eq_some_iff.mp h).1, ?_⟩
  rw [h]
  cases v
  case null => exact absurd rfl hn
  all_goals rfl
theorem jm_ll_of {base b : Nat} {ls : List Value} {q : Nat × Value} (h : q ∈ jm_ll base b ls) : ∃ v, ls[q.1]? = some v ∧ v ≠ .null ∧ q.2 = jm_cv base b v := by
  obtain ⟨k, -, hk⟩ := List.mem_filterMap.mp h
  split at hk
  next => cases hk
  next v h1 h2 =>
    cases hk
    exact ⟨_, h2, fun e => h1 (by rw [e]), rfl⟩
  next => cases hk
def jm_lr (base b : Nat) (ls : List Value) (A : Array Slot) (n : Nat) : Prop := ls.length = n ∧ lv_has A n (jm_ll base b ls)
theorem jm_lr_get {base b : Nat} {ls : List Value} {A : Array Slot} {n k : Nat} {v : Value} (h : jm_lr base b ls A n) (hk : ls[k]? = some v) (hn : v ≠ .null) : A[k]? = some (.val (jm_cv base b v)) := h.2.2.2 (k, jm_cv base b v) (jm_ll_in hk hn)
theorem jm_kl_len (ls : List Value) (i : Nat) : (jm_kl ls i).length = ls.length := by
  unfold jm_kl
  split
  · rfl
  · split <;> simp
theorem jm_kl_get {ls : List Value} {i k : Nat} {v : Value} (h : (jm_kl ls i)[k]? = some v) (hn : v ≠ .null) : ls[k]? = some v ∧ ¬ (k + 1 = i ∧ v.category = 2) := by
  unfold jm_kl at h
  split at h
  · exact ⟨h, fun q => by omega⟩
  · next j =>
    split at h
    next hj =>
      by_cases e : j = k
      · subst e
        have hl : j < ls.length := by
          have := (List.getElem?_eq_some_iff.mp h).1
          simpa using this
        rw [List.getElem?_set_self hl] at h
        cases h
        exact absurd rfl hn
      · rw [List.getElem?_set_ne e] at h
        exact ⟨h, fun q => e (by omega)⟩
    next hj =>
      refine ⟨h, fun q => hj ?_⟩
      have : j = k := by omega
      subst this
      rw [h]
      exact jm_cat_v2 q.2
theorem jm_lr_set {base b : Nat} {ls : List Value} {A' : Array Slot} {n i : Nat} {v : Value} (hl : ls.length = n) (hi : i < n) (h : lv_has A' n ((i, jm_cv base b v) :: (jm_ll base b ls).filter (fun q => !(q.1 == i) && !(q.1 + 1 == i && q.2.category == 2)))) : jm_lr base b ((jm_kl ls i).set i v) A' n := by
  refine ⟨by rw [List.length_set, jm_kl_len, hl], h.1, h.2.1, fun q hq => ?_⟩
  obtain ⟨w, h1, h2, h3⟩ := jm_ll_of hq
  by_cases e : i = q.1
  · rw [← e, List.getElem?_set_self (by rw [jm_kl_len, hl]; exact hi)] at h1
    cases h1
    have := h.2.2 (i, jm_cv base b v) List.mem_cons_self
    rw [← e, h3]
    exact this
  · rw [List.getElem?_set_ne e] at h1
    obtain ⟨g1, g2⟩ := jm_kl_get h1 h2
    refine h.2.2 q (List.mem_cons_of_mem _ (List.mem_filter.mpr ⟨?_, ?_⟩))
    · have := jm_ll_in (base := base) (b := b) g1 h2
      rw [← h3] at this
      exact this
    · have hc : q.2.category = w.category := by rw [h3, jm_cv_cat]
      simp only [Bool.and_eq_true, Bool.not_eq_true', beq_eq_false_iff_ne, Bool.and_eq_false_imp, beq_iff_eq, ne_eq]
      exact ⟨fun z => e z.symm, fun z1 z2 => g2 ⟨z1, by rw [← hc]; exact z2⟩⟩
theorem jm_lr_set2 {base b : Nat} {ls : List Value} {A' : Array Slot} {n i : Nat} {v : Value} (hl : ls.length = n) (hi : i + 1 < n) (h : lv_has A' n ((i, jm_cv base b v) :: (jm_ll base b ls).filter (fun q => !(q.1 == i) && (!(q.1 == i + 1) && !(q.1 + 1 == i && q.2.category == 2))))) : jm_lr base b (((jm_kl ls i).set i v).set (i + 1) .null) A' n := by
  refine ⟨by rw [List.length_set, List.length_set, jm_kl_len, hl], h.1, h.2.1, fun q hq => ?_⟩
  obtain ⟨w, h1, h2, h3⟩ := jm_ll_of hq
  by_cases e2 : i + 1 = q.1
  · rw [← e2, List.getElem?_set_self (by rw [List.length_set, jm_kl_len, hl]; exact hi)] at h1
    cases h1
    exact absurd rfl h2
  rw [List.getElem?_set_ne e2] at h1
  by_cases e : i = q.1
  · rw [← e, List.getElem?_set_self (by rw [jm_kl_len, hl]; omega)] at h1
    cases h1
    have := h.2.2 (i, jm_cv base b v) List.mem_cons_self
    rw [← e, h3]
    exact this
  · rw [List.getElem?_set_ne e] at h1
    obtain ⟨g1, g2⟩ := jm_kl_get h1 h2
    refine h.2.2 q (List.mem_cons_of_mem _ (List.mem_filter.mpr ⟨?_, ?_⟩))
    · have := jm_ll_in (base := base) (b := b) g1 h2
      rw [← h3] at this
      exact this
    · have hc : q.2.category = w.category := by rw [h3, jm_cv_cat]
      simp only [Bool.and_eq_true, Bool.not_eq_true', beq_eq_false_iff_ne, Bool.and_eq_false_imp, beq_iff_eq, ne_eq]
      exact ⟨fun z => e z.symm, fun z => e2 z.symm, fun z1 z2 => g2 ⟨z1, by rw [← hc]; exact z2⟩⟩
theorem jm_ii {ls : List Value} {i : Nat} {x : Int32} (h : ls[i]? = some (.int x)) (y : Int32) : jm_kl ls i = ls ∨ True := Or.inr trivial
/-- the same without looking ahead of i: an int stood there, so no long's first half stands ahead of it -/
theorem jm_lr_inc {base b : Nat} {ls : List Value} {A A' : Array Slot} {n i : Nat} {x v : Int32} (h0 : jm_lr base b ls A n) (hx : ls[i]? = some (.int x)) (h : lv_has A' n ((i, Value.int v) :: (jm_ll base b ls).filter (fun q => !(q.1 == i) && !(q.1 + 1 == i && q.2.category == 2)))) : jm_lr base b (ls.set i (.int v)) A' n := by
  have hi : i < n := by rw [← h0.1]; exact (List.getElem?_eq_some_iff.mp hx).1
  refine ⟨by rw [List.length_set]; exact h0.1, h.1, h.2.1, fun q hq => ?_⟩
  obtain ⟨w, h1, h2, h3⟩ := jm_ll_of hq
  by_cases e : i = q.1
  · rw [← e, List.getElem?_set_self (by rw [h0.1]; exact hi)] at h1
    cases h1
    have := h.2.2 (i, Value.int v) List.mem_cons_self
    rw [← e, h3]
    exact this
  · rw [List.getElem?_set_ne e] at h1
    have hg := jm_lr_get h0 h1 h2
    refine h.2.2 q (List.mem_cons_of_mem _ (List.mem_filter.mpr ⟨?_, ?_⟩))
    · have := jm_ll_in (base := base) (b := b) h1 h2
      rw [← h3] at this
      exact this
    · have hc : q.2.category = w.category := by rw [h3, jm_cv_cat]
      simp only [Bool.and_eq_true, Bool.not_eq_true', beq_eq_false_iff_ne, Bool.and_eq_false_imp, beq_iff_eq, ne_eq]
      refine ⟨fun z => e z.symm, fun z1 z2 => ?_⟩
      have hs := h0.2.2.1.1 q.1 _ hg (by rw [jm_cv_cat, ← hc]; exact z2)
      rw [z1] at hs
      have := jm_lr_get h0 hx (by simp)
      rw [hs] at this
      cases this
theorem jm_args_in : ∀ (vs : List Value) (i k : Nat) (v : Value), (vs.flatMap (fun v => if jm_v2 v then [v, .null] else [v]))[k]? = some v → v ≠ .null → (i + k, v) ∈ lv_args i vs
  | [], i, k, v, h, _ => by simp at h
  | w :: vs, i, k, v, h, hn => by
    rw [List.flatMap_cons] at h
    by_cases hw : jm_v2 w = true
    · rw [if_pos hw] at h
      simp only [lv_args, if_pos (jm_v2_cat2 hw)]
      match k, h with
      | 0, h => simp at h; subst h; exact List.mem_cons_self
      | 1, h => simp at h; exact absurd h.symm hn
      | k + 2, h =>
        have h' : (vs.flatMap (fun v => if jm_v2 v then [v, .null] else [v]))[k]? = some v := by simpa using h
        have := jm_args_in vs (i + 2) k v h' hn
        exact List.mem_cons_of_mem _ (by rw [show i + (k + 2) = i + 2 + k by omega]; exact this)
    · rw [if_neg hw] at h
      simp only [lv_args, if_neg (show ¬ w.category = 2 by rw [jm_v2_cat hw]; decide)]
      match k, h with
      | 0, h => simp at h; subst h; exact List.mem_cons_self
      | k + 1, h =>
        have h' : (vs.flatMap (fun v => if jm_v2 v then [v, .null] else [v]))[k]? = some v := by simpa using h
        have := jm_args_in vs (i + 1) k v h' hn
        exact List.mem_cons_of_mem _ (by rw [show i + (k + 1) = i + 1 + k by omega]; exact this)
theorem jm_args_cv (base b : Nat) : ∀ (vs : List Value) (i : Nat), lv_args i (vs.map (jm_cv base b)) = (lv_args i vs).map (fun q => (q.1, jm_cv base b q.2))
  | [], _ => rfl
  | w :: vs, i => by
    simp only [List.map_cons, lv_args, jm_cv_cat]
    rw [jm_args_cv base b vs]
theorem jm_sl_len (base b : Nat) : ∀ (vs : List Value), (lg_sl (vs.map (jm_cv base b))).length = (vs.flatMap (fun v => if jm_v2 v then [v, .null] else [v])).length
  | [] => rfl
  | w :: vs => by
    have ih := jm_sl_len base b vs
    simp only [lg_sl] at ih ⊢
    simp only [List.map_cons, List.flatMap_cons, List.length_append, jm_cv_cat, ih]
    congr 1
    by_cases hw : jm_v2 w = true
    · rw [if_pos hw, if_pos (jm_v2_cat2 hw)]; rfl
    · rw [if_neg hw, if_neg (show ¬ w.category = 2 by rw [jm_v2_cat hw]; decide)]; rfl
/-- the locals at a method's entry -/
theorem jm_lr_en {base b n : Nat} {mi : Nat} {as : List Value} (hn : n = jm_mx mi) (hle : (as.flatMap (fun v => if jm_v2 v then [v, .null] else [v])).length ≤ n) :
    jm_lr base b (jm_en mi as) ((lg_sl (as.map (jm_cv base b)) ++ List.replicate (n - (lg_sl (as.map (jm_cv base b))).length) Slot.unset).toArray) n := by
  have hlen := jm_sl_len base b as
  obtain ⟨h1, h2, h3⟩ := lv_entry (as.map (jm_cv base b)) (n := n) (by rw [hlen]; exact hle)
  refine ⟨?_, h1, h2, fun q hq => ?_⟩
  · simp only [jm_en, List.length_append, List.length_replicate]
    omega
  · obtain ⟨v, g1, g2, g3⟩ := jm_ll_of hq
    refine h3 q ?_
    rw [jm_args_cv]
    refine List.mem_map.mpr ⟨(q.1, v), ?_, by rw [← g3]⟩
    simp only [jm_en] at g1
    by_cases hk : q.1 < (as.flatMap (fun v => if jm_v2 v then [v, .null] else [v])).length
    · rw [List.getElem?_append_left hk] at g1
      have := jm_args_in as 0 q.1 v g1 g2
      rw [Nat.zero_add] at this
      exact this
    · rw [List.getElem?_append_right (by omega)] at g1
      have := List.mem_of_getElem? g1
      exact absurd (List.eq_of_mem_replicate this) g2
section JR
variable {p : Program} {l : Launch} {e : Env} {R : Room} {s : State} {m : MethodId} {args : Array Value} {below : List Frame} {meth : Method} {c : Code} {H : Heap} {locs : List Loc} {cells slots : Nat} {Q : State → Prop}
variable {cc : ByteArray} {pc : Nat} {A : Array Slot} {base b : Nat}
set_option maxHeartbeats 4000000 in
theorem jm_alu_s {ins : Instr} {st st' : List Value} (hx : p.tables.exec = Jvm.exec) (hb : c.code = cc) (hdg : decode cc pc = .ok (ins, jm_len ins)) (h : jm_alu ins st = some st')
    (k : W p l e R s m args below meth c H locs cells slots Q (F0 m (pc + jm_len ins) A (st'.map (jm_cv base b)))) : W p l e R s m args below meth c H locs cells slots Q (F0 m pc A (st.map (jm_cv base b))) := by
  unfold jm_alu at h
  split at h
  · cases h; exact lv_iconst hx hb hdg rfl k
  · cases h; exact lv_bipush hx hb hdg rfl k
  · cases h; exact lv_sipush hx hb hdg rfl k
  · cases h; exact lv_lconst hx hb hdg rfl k
  · split at h <;> cases h; exact lv_iadd hx hb hdg k
  · split at h <;> cases h; exact lv_isub hx hb hdg k
  · split at h <;> cases h; exact lv_imul hx hb hdg k
  · split at h <;> cases h; exact lv_iand hx hb hdg k
  · split at h <;> cases h; exact lv_ior hx hb hdg k
  · split at h <;> cases h; exact lv_ixor hx hb hdg k
  · split at h
    · split at h
      · cases h
      · next hne => cases h; exact lv_idiv hx hb hdg hne k
    · cases h
  · split at h
    · split at h
      · cases h
      · next hne => cases h; exact lv_irem hx hb hdg hne k
    · cases h
  · split at h <;> cases h; exact lv_ineg hx hb hdg k
  · split at h <;> cases h; exact lv_ishl hx hb hdg k
  · split at h <;> cases h; exact lv_ishr hx hb hdg k
  · split at h <;> cases h; exact lv_iushr hx hb hdg rfl k
  · split at h <;> cases h; exact lv_ladd hx hb hdg k
  · split at h <;> cases h; exact lv_lsub hx hb hdg k
  · split at h <;> cases h; exact lv_lmul hx hb hdg k
  · split at h <;> cases h; exact lv_land hx hb hdg k
  · split at h <;> cases h; exact lv_lor hx hb hdg k
  · split at h <;> cases h; exact lv_lxor hx hb hdg k
  · split at h
    · split at h
      · cases h
      · next hne => cases h; exact lv_ldiv hx hb hdg hne k
    · cases h
  · split at h
    · split at h
      · cases h
      · next hne => cases h; exact lv_lrem hx hb hdg hne k
    · cases h
  · split at h <;> cases h; exact lv_lneg hx hb hdg k
  · split at h <;> cases h; exact lv_lshl hx hb hdg rfl k
  · split at h <;> cases h; exact lv_lshr hx hb hdg rfl k
  · split at h <;> cases h; exact lv_lushr hx hb hdg rfl k
  · split at h <;> cases h; exact W.lcmp hx hb hdg k
  · split at h <;> cases h; exact lv_i2l hx hb hdg rfl k
  · split at h <;> cases h; exact lv_l2i hx hb hdg rfl k
  · split at h <;> cases h; exact lv_i2b hx hb hdg rfl k
  · split at h
    · split at h
      · cases h
      · next hv => cases h; exact lv_dup hx hb hdg (by rw [jm_cv_cat]; exact jm_v2_cat hv) k
    · cases h
  · split at h
    · split at h
      · cases h
      · next hv => cases h; exact lv_pop hx hb hdg (by rw [jm_cv_cat]; exact jm_v2_cat hv) k
    · cases h
  · split at h
    · split at h
      · cases h
      · next hv => cases h; exact lv_dup_x1 hx hb hdg (by rw [jm_cv_cat]; exact jm_v2_cat (fun q => hv (by rw [q]; rfl))) (by rw [jm_cv_cat]; exact jm_v2_cat (fun q => hv (by rw [q, Bool.or_true]))) k
    · cases h
  · split at h
    · split at h
      · cases h
      · next hv => cases h; exact lv_dup2_11 hx hb hdg (by rw [jm_cv_cat]; exact jm_v2_cat (fun q => hv (by rw [q]; rfl))) (by rw [jm_cv_cat]; exact jm_v2_cat (fun q => hv (by rw [q, Bool.or_true]))) k
    · cases h
  · cases h
theorem jm_ld_s {ls ls' st st' : List Value} {n t i : Nat} (hlr : jm_lr base b ls A n) (h : jm_ld ls st t i = some (ls', st')) : ls' = ls ∧ ((t = 0 ∧ ∃ x, A[i]? = some (.val (.int x)) ∧ st' = .int x :: st) ∨ (t = 1 ∧ ∃ x, A[i]? = some (.val (.long x)) ∧ st' = .long x :: st) ∨ (t = 2 ∧ ∃ r, A[i]? = some (.val (.ref (jm_ad base b r))) ∧ st' = .ref r :: st)) := by
  unfold jm_ld at h
  split at h
  · next e => cases h; exact ⟨rfl, Or.inl ⟨rfl, _, jm_lr_get hlr e (by simp), rfl⟩⟩
  · next e => cases h; exact ⟨rfl, Or.inr (Or.inl ⟨rfl, _, jm_lr_get hlr e (by simp), rfl⟩)⟩
  · next e => cases h; exact ⟨rfl, Or.inr (Or.inr ⟨rfl, _, jm_lr_get hlr e (by simp), rfl⟩)⟩
  · cases h
set_option maxHeartbeats 4000000 in
theorem jm_loc_s {ins : Instr} {ls ls' st st' : List Value} {n : Nat} (hx : p.tables.exec = Jvm.exec) (hb : c.code = cc) (hdg : decode cc pc = .ok (ins, jm_len ins)) (hlr : jm_lr base b ls A n) (h : jm_loc ins ls st = some (ls', st'))
    (k : ∀ A' : Array Slot, jm_lr base b ls' A' n → W p l e R s m args below meth c H locs cells slots Q (F0 m (pc + jm_len ins) A' (st'.map (jm_cv base b)))) : W p l e R s m args below meth c H locs cells slots Q (F0 m pc A (st.map (jm_cv base b))) := by
  have hlen := hlr.1
  unfold jm_loc at h
  split at h
  · obtain ⟨rfl, ⟨-, x, g, rfl⟩ | ⟨z, -⟩ | ⟨z, -⟩⟩ := jm_ld_s hlr h
    · exact lv_iload hx hb hdg g (k A hlr)
    · cases z
    · cases z
  · obtain ⟨rfl, ⟨-, x, g, rfl⟩ | ⟨z, -⟩ | ⟨z, -⟩⟩ := jm_ld_s hlr h
    · exact lv_iload_n hx hb hdg rfl g (k A hlr)
    · cases z
    · cases z
  · obtain ⟨rfl, ⟨z, -⟩ | ⟨-, x, g, rfl⟩ | ⟨z, -⟩⟩ := jm_ld_s hlr h
    · cases z
    · exact lv_lload hx hb hdg g (k A hlr)
    · cases z
  · obtain ⟨rfl, ⟨z, -⟩ | ⟨-, x, g, rfl⟩ | ⟨z, -⟩⟩ := jm_ld_s hlr h
    · cases z
    · exact lv_lload_n hx hb hdg rfl g (k A hlr)
    · cases z
  · obtain ⟨rfl, ⟨z, -⟩ | ⟨z, -⟩ | ⟨-, x, g, rfl⟩⟩ := jm_ld_s hlr h
    · cases z
    · cases z
    · exact lv_aload hx hb hdg g (k A hlr)
  · obtain ⟨rfl, ⟨z, -⟩ | ⟨z, -⟩ | ⟨-, x, g, rfl⟩⟩ := jm_ld_s hlr h
    · cases z
    · cases z
    · exact lv_aload_n hx hb hdg rfl g (k A hlr)
  · unfold jm_so at h
    split at h
    · split at h
      · next hi => cases h; exact lv_istore hx hb hdg hlr.2 (by omega) rfl fun A' h' => k A' (jm_lr_set hlen (by omega) h')
      · cases h
    all_goals first | cases h | (next z => cases z)
  · unfold jm_so at h
    split at h
    · split at h
      · next hi => cases h; exact lv_istore_n hx hb hdg rfl hlr.2 (by omega) rfl fun A' h' => k A' (jm_lr_set hlen (by omega) h')
      · cases h
    all_goals first | cases h | (next z => cases z)
  · unfold jm_so at h
    split at h
    · next z => cases z
    · split at h
      · next hi => cases h; exact lv_lstore hx hb hdg hlr.2 (by omega) rfl fun A' h' => k A' (jm_lr_set2 hlen (by omega) h')
      · cases h
    all_goals first | cases h | (next z => cases z)
  · unfold jm_so at h
    split at h
    · next z => cases z
    · split at h
      · next hi => cases h; exact lv_lstore_n hx hb hdg rfl hlr.2 (by omega) rfl fun A' h' => k A' (jm_lr_set2 hlen (by omega) h')
      · cases h
    all_goals first | cases h | (next z => cases z)
  · unfold jm_so at h
    split at h
    · next z => cases z
    · next z => cases z
    · split at h
      · next hi => cases h; exact lv_astore hx hb hdg hlr.2 (by omega) rfl fun A' h' => k A' (jm_lr_set (v := .ref _) hlen (by omega) h')
      · cases h
    all_goals first | cases h | (next z => cases z)
  · unfold jm_so at h
    split at h
    · next z => cases z
    · next z => cases z
    · split at h
      · next hi => cases h; exact lv_astore_n hx hb hdg rfl hlr.2 (by omega) rfl fun A' h' => k A' (jm_lr_set (v := .ref _) hlen (by omega) h')
      · cases h
    all_goals first | cases h | (next z => cases z)
  · split at h
    · next i n x e =>
      cases h
      obtain ⟨kk, hkk⟩ := List.getElem?_of_mem (jm_ll_in (base := base) (b := b) e (by simp))
      exact lv_iinc hx hb hdg hlr.2 hkk rfl (by rw [← hlen]; exact (List.getElem?_eq_some_iff.mp e).1) rfl fun A' h' => k A' (jm_lr_inc hlr e h')
    · cases h
  · cases h
theorem jm_tgt_s {pc t : Nat} {off : Int} (h : jm_tgt pc off = some t) : (pc : Int) + off = (t : Int) := by
  unfold jm_tgt at h
  split at h
  · next e => cases h; exact e
  · cases h
theorem jm_cond_t {bb : Bool} {x y : Nat} (h : bb = true) : (cond bb x y) = x := by rw [h]; rfl
theorem jm_cond_f {bb : Bool} {x y : Nat} (h : ¬ bb = true) : (cond bb x y) = y := by
  cases bb
  · rfl
  · exact absurd rfl h
set_option maxHeartbeats 4000000 in
theorem jm_br_s {ins : Instr} {st st' : List Value} {pc' len : Nat} (hx : p.tables.exec = Jvm.exec) (hb : c.code = cc) (hdg : decode cc pc = .ok (ins, len)) (hl3 : jm_sw ins = false → len = 3) (h : jm_br ins pc st = some (pc', st'))
    (k : W p l e R s m args below meth c H locs cells slots Q (F0 m pc' A (st'.map (jm_cv base b)))) : W p l e R s m args below meth c H locs cells slots Q (F0 m pc A (st.map (jm_cv base b))) := by
  unfold jm_br at h
  split at h
  · next cd off =>
    obtain rfl := hl3 rfl
    split at h
    · split at h
      · next t ht =>
        have ht := jm_tgt_s ht
        cases h
        cases cd
        · exact lv_if_eq hx hb hdg ht (fun q => by rw [jm_cond_t (by simpa [jm_cz] using q)] at k; exact k) (fun q => by rw [jm_cond_f (by simpa [jm_cz] using q)] at k; exact k)
        · exact lv_if_ne hx hb hdg ht (fun q => by rw [jm_cond_t (by simpa [jm_cz] using q)] at k; exact k) (fun q => by rw [jm_cond_f (by simpa [jm_cz] using q)] at k; exact k)
        · exact lv_if_lt hx hb hdg ht (fun q => by rw [jm_cond_t (by simpa [jm_cz] using q)] at k; exact k) (fun q => by rw [jm_cond_f (by simpa only [jm_cz, decide_eq_true_eq] using q)] at k; exact k)
        · exact lv_if_ge hx hb hdg ht (fun q => by rw [jm_cond_t (by simpa [jm_cz] using q)] at k; exact k) (fun q => by rw [jm_cond_f (by simpa only [jm_cz, decide_eq_true_eq] using q)] at k; exact k)
        · exact lv_if_gt hx hb hdg ht (fun q => by rw [jm_cond_t (by simpa [jm_cz] using q)] at k; exact k) (fun q => by rw [jm_cond_f (by simpa only [jm_cz, decide_eq_true_eq] using q)] at k; exact k)
        · exact lv_if_le hx hb hdg ht (fun q => by rw [jm_cond_t (by simpa [jm_cz] using q)] at k; exact k) (fun q => by rw [jm_cond_f (by simpa only [jm_cz, decide_eq_true_eq] using q)] at k; exact k)
      · cases h
    · cases h
  · next cd off =>
    obtain rfl := hl3 rfl
    split at h
    · split at h
      · next t ht =>
        have ht := jm_tgt_s ht
        cases h
        cases cd
        · exact lv_icmp_eq hx hb hdg ht (fun q => by rw [jm_cond_t (by simpa [jm_cc] using q)] at k; exact k) (fun q => by rw [jm_cond_f (by simpa [jm_cc] using q)] at k; exact k)
        · exact lv_icmp_ne hx hb hdg ht (fun q => by rw [jm_cond_t (by simpa [jm_cc] using q)] at k; exact k) (fun q => by rw [jm_cond_f (by simpa [jm_cc] using q)] at k; exact k)
        · exact lv_icmp_lt hx hb hdg ht (fun q => by rw [jm_cond_t (by simpa [jm_cc] using q)] at k; exact k) (fun q => by rw [jm_cond_f (by simpa only [jm_cc, decide_eq_true_eq] using q)] at k; exact k)
        · exact lv_icmp_ge hx hb hdg ht (fun q => by rw [jm_cond_t (by simpa [jm_cc] using q)] at k; exact k) (fun q => by rw [jm_cond_f (by simpa only [jm_cc, decide_eq_true_eq] using q)] at k; exact k)
        · exact lv_icmp_gt hx hb hdg ht (fun q => by rw [jm_cond_t (by simpa [jm_cc] using q)] at k; exact k) (fun q => by rw [jm_cond_f (by simpa only [jm_cc, decide_eq_true_eq] using q)] at k; exact k)
        · exact lv_icmp_le hx hb hdg ht (fun q => by rw [jm_cond_t (by simpa [jm_cc] using q)] at k; exact k) (fun q => by rw [jm_cond_f (by simpa only [jm_cc, decide_eq_true_eq] using q)] at k; exact k)
      · cases h
    · cases h
  · obtain rfl := hl3 rfl
    split at h
    · next t ht => cases h; exact lv_goto hx hb hdg (jm_tgt_s ht) k
    · cases h
  · split at h
    · split at h
      · next hr =>
        split at h
        · next t ht => cases h; exact lv_tableOut hx hb hdg hr (jm_tgt_s ht) k
        · cases h
      · next hr =>
        split at h
        · next off ho =>
          split at h
          · next t ht => cases h; exact lv_tableIn hx hb hdg (fun q => hr (Or.inl q)) (fun q => hr (Or.inr q)) ho (jm_tgt_s ht) k
          · cases h
        · cases h
    · cases h
  · split at h
    · split at h
      · next hp =>
        split at h
        · next t ht => cases h; exact lv_lookup hx hb hdg hp rfl (jm_tgt_s ht) k
        · cases h
      · cases h
    · cases h
  · cases h
end JR
end
section
/-! the heap's relation, and the instructions that read or write it -/
theorem jm_bne {a b : Nat} (h : a ≠ b) : Nat.beq a b = false := by
  cases hb : Nat.beq a b
  · rfl
  · exact absurd (Nat.eq_of_beq_eq_true hb) h
def jm_fv (H : jm_H) (r ci k : Nat) : Value := match jm_ft ci k with
  | 1 => .long (jm_L H r k)
  | 2 => if jm_R H r k = 0 then .null else .ref (jm_R H r k)
  | _ => .int (jm_I H r k)
def jm_fs (base b : Nat) (H : jm_H) (r ci : Nat) : List Value := (List.range (jm_N ci)).map (fun k => jm_cv base b (jm_fv H r ci k))
def jm_rf (base b : Nat) (x : Nat) : Option Nat := if x = 0 then none else some (jm_ad base b x)
def jm_ar (base b : Nat) (H : jm_H) (r t : Nat) : (Nat → Int32) ⊕ (Nat → Int64) ⊕ (Nat → UInt32) ⊕ (Nat → UInt64) ⊕ (Nat → Option Nat) :=
  if t = 101 then .inr (.inl (jm_L H r)) else if t = 104 ∨ t = 105 then .inr (.inr (.inr (.inr (fun j => jm_rf base b (jm_R H r j))))) else .inl (jm_I H r)
def jm_ob (dA : Nat → ClassId) (base b : Nat) (H : jm_H) (r : Nat) : va_E :=
  if jm_tg H r < 100 then .inr (jm_tg H r - 1, jm_fs base b H r (jm_tg H r - 1)) else .inl (dA (jm_tg H r - 100), jm_ln H r, jm_ar base b H r (jm_tg H r))
def jm_wl (dA : Nat → ClassId) (base b : Nat) (H : jm_H) : va_W := (List.range (jm_n H)).map (fun k => (base + k, jm_ob dA base b H (k + 2)))
def jm_wf (H : jm_H) : Prop := ∀ r, jm_tg H r ≠ 0 → 2 ≤ r ∧ r < jm_n H + 2 ∧ (jm_tg H r ≤ 13 ∨ (100 ≤ jm_tg H r ∧ jm_tg H r ≤ 105))
def jm_W0 (D : va_G) (dA : Nat → ClassId) (base b : Nat) (H00 M : Heap) (H : jm_H) : Prop :=
  M.size = base + jm_n H ∧ (∀ k, k < jm_n H → va_at D jm_cl0 (base + k, jm_ob dA base b H (k + 2)) M) ∧ (∀ q, q < base → M[q]? = H00[q]?) ∧ jm_wf H
def jm_aty (t : Nat) : FieldType := match t with
  | 0 => .int
  | 1 => .long
  | 2 => .byte
  | 3 => .boolean
  | 4 => .object "TaperedNumbers$State"
  | _ => .object "TaperedNumbers$Slot"
abbrev jm_tys (dA : Nat → ClassId) : List (ClassId × FieldType) := [(dA 0, jm_aty 0), (dA 1, jm_aty 1), (dA 2, jm_aty 2), (dA 3, jm_aty 3), (dA 4, jm_aty 4), (dA 5, jm_aty 5)]
/-- what stays true of the tables while the program runs -/
def jm_K (D : va_G) (dA : Nat → ClassId) (b L : Nat) (xs : Nat → Int32) (H00 : Heap) (U : State) : Prop :=
  va_K D jm_cl0 (jm_tys dA) U ∧ va_X b L xs U H00 ∧ ∀ w ∈ lw_tbl, jm_gw w = true → va_Nw w U
theorem jm_tys_at {dA : Nat → ClassId} {t : Nat} (h : t < 6) : (jm_tys dA)[t]? = some (dA t, jm_aty t) := by
  match t, h with
  | 0, _ => rfl
  | 1, _ => rfl
  | 2, _ => rfl
  | 3, _ => rfl
  | 4, _ => rfl
  | 5, _ => rfl
theorem jm_wl_at {dA : Nat → ClassId} {base b : Nat} {H : jm_H} {k : Nat} (h : k < jm_n H) : (jm_wl dA base b H)[k]? = some (base + k, jm_ob dA base b H (k + 2)) := by
  simp [jm_wl, h]
theorem jm_W0.P {D : va_G} {dA : Nat → ClassId} {base b : Nat} {H00 M : Heap} {H : jm_H} (h : jm_W0 D dA base b H00 M H) {r : Nat} (ht : jm_tg H r ≠ 0) : r - 2 < jm_n H ∧ jm_ad base b r = base + (r - 2) ∧ va_at D jm_cl0 (jm_ad base b r, jm_ob dA base b H r) M := by
  obtain ⟨h2, h3, -⟩ := h.2.2.2 r ht
  have e : jm_ad base b r = base + (r - 2) := by
    unfold jm_ad
    rw [if_neg (by omega)]
  refine ⟨by omega, e, ?_⟩
  rw [e]
  have := h.2.1 (r - 2) (by omega)
  rw [show r - 2 + 2 = r by omega] at this
  exact this
theorem jm_W0.lt {D : va_G} {dA : Nat → ClassId} {base b : Nat} {H00 M : Heap} {H : jm_H} (h : jm_W0 D dA base b H00 M H) {r : Nat} (ht : jm_tg H r ≠ 0) : jm_ad base b r < M.size ∧ base ≤ jm_ad base b r := by
  obtain ⟨h1, h2, -⟩ := h.P ht
  rw [h2, h.1]
  omega
/-- one object is changed -/
theorem jm_W0.set {D : va_G} {dA : Nat → ClassId} {base b : Nat} {H00 M M' : Heap} {H H' : jm_H} (h : jm_W0 D dA base b H00 M H) {r : Nat} (ht : jm_tg H r ≠ 0) (hn : jm_n H' = jm_n H) (htg : jm_tg H' = jm_tg H)
    (hz : M'.size = M.size) (ho : ∀ q : Nat, q ≠ jm_ad base b r → M'[q]? = M[q]?) (hob : ∀ r', r' ≠ r → jm_ob dA base b H' r' = jm_ob dA base b H r') (hat : va_at D jm_cl0 (jm_ad base b r, jm_ob dA base b H' r) M') : jm_W0 D dA base b H00 M' H' := by
  obtain ⟨h1, h2, h3⟩ := h.P ht
  obtain ⟨g1, g2, g3, g4⟩ := h
  have hr := g4 r ht
  refine ⟨by rw [hz, hn]; exact g1, fun k hk => ?_, fun q hq => by rw [ho q (by rw [h2]; omega)]; exact g3 q hq, fun r' hr' => by rw [htg] at hr' ⊢; rw [hn]; exact g4 r' hr'⟩
  by_cases e : k + 2 = r
  · rw [← e] at hat h2
    rw [h2] at hat
    exact hat
  · rw [hob (k + 2) e]
    exact (g2 k (by rw [← hn]; exact hk)).kept (ho _ (by rw [h2]; omega))
/-- one object more -/
theorem jm_W0.add {D : va_G} {dA : Nat → ClassId} {base b : Nat} {H00 M M' : Heap} {H : jm_H} {t len sl : Nat} (h : jm_W0 D dA base b H00 M H) (htt : t ≤ 13 ∨ (100 ≤ t ∧ t ≤ 105))
    (hz : M'.size = M.size + 1) (ho : ∀ q : Nat, q < M.size → M'[q]? = M[q]?) (hat : va_at D jm_cl0 (M.size, jm_ob dA base b (jm_mk H t len sl) (jm_n H + 2)) M') : jm_W0 D dA base b H00 M' (jm_mk H t len sl) := by
  obtain ⟨g1, g2, g3, g4⟩ := h
  have hn : jm_n (jm_mk H t len sl) = jm_n H + 1 := rfl
  have htg : ∀ r, r ≠ jm_n H + 2 → jm_tg (jm_mk H t len sl) r = jm_tg H r := fun r hr => by
    show cond (Nat.beq r (jm_n H + 2)) _ _ = _
    rw [show Nat.beq r (jm_n H + 2) = false from jm_bne hr]
    rfl
  refine ⟨by rw [hz, hn]; omega, fun k hk => ?_, fun q hq => by rw [ho q (by omega)]; exact g3 q hq, fun r hr => ?_⟩
  · by_cases e : k = jm_n H
    · subst e
      rw [g1] at hat
      exact hat
    · have hk' : k < jm_n H := by rw [hn] at hk; omega
      have hb : Nat.beq (k + 2) (jm_n H + 2) = false := jm_bne (by omega)
      have e1 : jm_ob dA base b (jm_mk H t len sl) (k + 2) = jm_ob dA base b H (k + 2) := by
        have a1 : jm_tg (jm_mk H t len sl) (k + 2) = jm_tg H (k + 2) := htg _ (by omega)
        have a2 : jm_ln (jm_mk H t len sl) (k + 2) = jm_ln H (k + 2) := by
          show cond (Nat.beq (k + 2) (jm_n H + 2)) _ _ = _
          rw [hb]; rfl
        have a3 : jm_I (jm_mk H t len sl) (k + 2) = jm_I H (k + 2) := by
          funext j
          show cond (Nat.beq (k + 2) (jm_n H + 2)) _ _ = _
          rw [hb]; rfl
        have a4 : jm_L (jm_mk H t len sl) (k + 2) = jm_L H (k + 2) := by
          funext j
          show cond (Nat.beq (k + 2) (jm_n H + 2)) _ _ = _
          rw [hb]; rfl
        have a5 : jm_R (jm_mk H t len sl) (k + 2) = jm_R H (k + 2) := by
          funext j
          show cond (Nat.beq (k + 2) (jm_n H + 2)) _ _ = _
          rw [hb]; rfl
        unfold jm_ob jm_fs jm_fv jm_ar
        rw [a1, a2, a3, a4, a5]
      rw [e1]
      exact (g2 k hk').kept (ho _ (by omega))
  · by_cases e : r = jm_n H + 2
    · subst e
      refine ⟨by omega, by rw [hn]; omega, ?_⟩
      have : jm_tg (jm_mk H t len sl) (jm_n H + 2) = t := by
        show cond (Nat.beq (jm_n H + 2) (jm_n H + 2)) _ _ = _
        rw [Nat.beq_refl]; rfl
      rw [this]
      exact htt
    · rw [htg r e] at hr ⊢
      obtain ⟨a1, a2, a3⟩ := g4 r hr
      exact ⟨a1, by rw [hn]; omega, a3⟩
theorem jm_K.moved {D : va_G} {dA : Nat → ClassId} {b L : Nat} {xs : Nat → Int32} {H00 : Heap} {s U : State} (h : jm_K D dA b L xs H00 s) (hW : s.WarmedH U.vm) : jm_K D dA b L xs H00 U := by
  refine ⟨va_K.moved hW.alike h.1, h.2.1.moved hW.alike, fun w hw hg => ?_⟩
  have h1 := h.2.2 w hw hg
  unfold jm_gw at hg
  split at hg
  · exact va_Nw.warmM hW h1
  · exact va_AO.moved hW.alike h1
  · cases hg
theorem jm_K.blind {D : va_G} {dA : Nat → ClassId} {b L : Nat} {xs : Nat → Int32} {H00 : Heap} {U : State} (h : jm_K D dA b L xs H00 U) (g : JFrame) (mk : MethodId) (a : Array Value) : jm_K D dA b L xs H00 (U.calling g mk a) :=
  h.moved (State.WarmedH.refl U)
/-! out of the tables -/
theorem jm_cl_at {ci : Nat} (h : ci < 13) : jm_cl0[ci]? = some (jm_C ci, jm_T ci, jm_N ci) := by
  match ci, h with
  | 0, _ => rfl
  | 1, _ => rfl
  | 2, _ => rfl
  | 3, _ => rfl
  | 4, _ => rfl
  | 5, _ => rfl
  | 6, _ => rfl
  | 7, _ => rfl
  | 8, _ => rfl
  | 9, _ => rfl
  | 10, _ => rfl
  | 11, _ => rfl
  | 12, _ => rfl
def jm_ty (ci : Nat) : Nat → FieldType := jm_TY.getD ci tyX0
theorem jm_cl_ok {ci : Nat} (h : ci < 13) : (∀ a, a < jm_N ci → ∀ b, b < jm_N ci → a ≠ b → (jm_T ci a).2.1 ≠ (jm_T ci b).2.1) ∧ (∀ k, k < jm_N ci → parseFieldDescriptor (jm_T ci k).2.2.1 = some (jm_ty ci k)) := by
  match ci, h with
  | 0, _ => exact ⟨nmX0, tyX0_ok⟩
  | 1, _ => exact ⟨nmX1, tyX1_ok⟩
  | 2, _ => exact ⟨nmX2, tyX2_ok⟩
  | 3, _ => exact ⟨nmX3, tyX3_ok⟩
  | 4, _ => exact ⟨nmX4, tyX4_ok⟩
  | 5, _ => exact ⟨nmX5, tyX5_ok⟩
  | 6, _ => exact ⟨nmX6, tyX6_ok⟩
  | 7, _ => exact ⟨nmX7, tyX7_ok⟩
  | 8, _ => exact ⟨nmX8, tyX8_ok⟩
  | 9, _ => exact ⟨nmX9, tyX9_ok⟩
  | 10, _ => exact ⟨nmX10, tyX10_ok⟩
  | 11, _ => exact ⟨nmX11, tyX11_ok⟩
  | 12, _ => exact ⟨nmX12, tyX12_ok⟩
def jm_tc (t : FieldType) : Nat := match t with
  | .int => 0
  | .long => 1
  | .boolean => 3
  | .object _ => 2
  | .array _ => 2
  | _ => 9
theorem jm_tc_ok : (List.range 13).all (fun ci => (List.range (jm_N ci)).all fun k => jm_tc (jm_ty ci k) == jm_ft ci k) = true := by decide +kernel
theorem jm_tc_at {ci k : Nat} (h : ci < 13) (hk : k < jm_N ci) : jm_tc (jm_ty ci k) = jm_ft ci k := by
  have h1 := List.all_eq_true.mp jm_tc_ok ci (List.mem_range.mpr h)
  have h2 := List.all_eq_true.mp h1 k (List.mem_range.mpr hk)
  simpa using h2
theorem jm_fin_ok : (List.range 13).all (fun ci => (List.range (jm_N ci)).all fun k => (jm_fin.getD ci []).getD k false == (jm_T ci k).2.2.2) = true := by decide +kernel
theorem jm_fin_at {ci k : Nat} (h : ci < 13) (hk : k < jm_N ci) : (jm_fin.getD ci []).getD k false = (jm_T ci k).2.2.2 := by
  have h1 := List.all_eq_true.mp jm_fin_ok ci (List.mem_range.mpr h)
  have h2 := List.all_eq_true.mp h1 k (List.mem_range.mpr hk)
  simpa using h2
theorem jm_plc {ps : List Nat} {ws : List Jvm.Cond} (h : ps.map (fun p => lw_tbl[p]?) = ws.map some) : ∀ w ∈ ws, w ∈ lw_tbl := by
  intro w hw
  have h1 : some w ∈ ps.map (fun p => lw_tbl[p]?) := by rw [h]; exact List.mem_map.mpr ⟨w, hw, rfl⟩
  obtain ⟨q, -, hq⟩ := List.mem_map.mp h1
  exact List.mem_of_getElem? hq
theorem jm_lay_g {C : String} {T : u_T} {N : Nat} : ∀ w ∈ u_ws C T N, (goodWord w || jm_gw w) = true := by
  intro w hw
  obtain ⟨k, -, rfl⟩ := List.mem_map.mp hw
  unfold u_lay
  split <;> rfl
theorem jm_lay_in {ci : Nat} (h : ci < 13) : ∀ w ∈ u_ws (jm_C ci) (jm_T ci) (jm_N ci), w ∈ jm_tb := by
  have hl : jm_xl ci = true := by
    match ci, h with
    | 0, _ => exact jm_okl0
    | 1, _ => exact jm_okl1
    | 2, _ => exact jm_okl2
    | 3, _ => exact jm_okl3
    | 4, _ => exact jm_okl4
    | 5, _ => exact jm_okl5
    | 6, _ => exact jm_okl6
    | 7, _ => exact jm_okl7
    | 8, _ => exact jm_okl8
    | 9, _ => exact jm_okl9
    | 10, _ => exact jm_okl10
    | 11, _ => exact jm_okl11
    | 12, _ => exact jm_okl12
  unfold jm_xl at hl
  simp only [Bool.and_eq_true, decide_eq_true_eq] at hl
  exact fun w hw => jm_tb_in (jm_plc hl.1.1 w hw) (jm_lay_g w hw)
theorem jm_kall {ci : Nat} : (jm_ks.getD ci []).all (jm_xk ci) = true := by
  match ci with
  | 0 => exact jm_okk0
  | 1 => exact jm_okk1
  | 2 => exact jm_okk2
  | 3 => exact jm_okk3
  | 4 => exact jm_okk4
  | 5 => exact jm_okk5
  | 6 => exact jm_okk6
  | 7 => exact jm_okk7
  | 8 => exact jm_okk8
  | 9 => exact jm_okk9
  | 10 => exact jm_okk10
  | 11 => exact jm_okk11
  | 12 => exact jm_okk12
  | 13 => exact jm_okk13
  | 14 => exact jm_okk14
  | 15 => exact jm_okk15
  | 16 => exact jm_okk16
  | 17 => exact jm_okk17
  | n + 18 => rfl
theorem jm_wd_g {own : String} {idx : Nat} {e : Nat × Nat × Nat × Int} : ∀ w ∈ jm_wd own idx e, (goodWord w || jm_gw w) = true := by
  intro w hw
  unfold jm_wd at hw
  split at hw
  all_goals simp only [List.mem_cons, List.not_mem_nil, or_false] at hw
  all_goals first | (rcases hw with rfl | rfl | rfl | rfl <;> rfl) | (rcases hw with rfl | rfl | rfl <;> rfl) | (rcases hw with rfl | rfl <;> rfl) | (subst hw; rfl)
/-- what a link gives: its words, and that its numbers are in range -/
theorem jm_lnk {ci idx : Nat} {e : Nat × Nat × Nat × Int} (h : jm_rs ci idx = some e) : (∀ w ∈ jm_wd (jm_own.getD ci "") idx e, w ∈ jm_tb) ∧ ∃ ps, jm_xk ci (idx, e, ps) = true := by
  unfold jm_rs at h
  cases hl : (jm_ks.getD ci []).lookup idx with
  | none => rw [hl] at h; cases h
  | some x =>
    rw [hl] at h
    cases h
    have h1 := List.all_eq_true.mp (jm_kall (ci := ci)) _ (jm_lkp hl)
    refine ⟨?_, x.2, h1⟩
    have h2 := h1
    unfold jm_xk at h2
    rw [Bool.and_eq_true] at h2
    exact fun w hw => jm_tb_in (jm_plc (of_decide_eq_true h2.1) w hw) (jm_wd_g w hw)
end
section
/-- a method's body: the machine, its code and tables, what stays true -/
def jm_Cx (D : va_G) (dA : Nat → ClassId) (base b L : Nat) (xs : Nat → Int32) (H00 : Heap) (mi : Nat) (p : Program) (s : State) (m : MethodId) (args : Array Value) (meth : Method) (c : Code) : Prop :=
  p.tables.exec = Jvm.exec ∧ c.code = jm_b mi ∧ meth.sig.returnType = jm_ret mi ∧ c.maxLocals = jm_mx mi ∧ s.vm.findClass (jm_y mi).cls = some m.cls ∧ (∀ w ∈ jm_tb, w.before args s = true) ∧ meth.locks = false ∧ ((jm_y mi).name = "<init>" → meth.name = "<init>") ∧
  jm_K D dA b L xs H00 s ∧ jm_xm mi = true ∧ b < base ∧ H00.size = base
theorem jm_xm_own {mi : Nat} (h : jm_xm mi = true) : jm_own.getD (jm_ci mi) "" = (jm_y mi).cls := by
  unfold jm_xm at h
  simp only [Bool.and_eq_true, decide_eq_true_eq] at h
  exact h.1.1.1.1.symm
theorem jm_fs_at {base b : Nat} {H : jm_H} {r ci k : Nat} (hk : k < jm_N ci) : (jm_fs base b H r ci)[k]? = some (jm_cv base b (jm_fv H r ci k)) := by
  simp [jm_fs, hk]
theorem jm_fs_V {base b : Nat} {H : jm_H} {r ci k : Nat} (hk : k < jm_N ci) : vp_V (jm_fs base b H r ci) k = jm_cv base b (jm_fv H r ci k) := by
  unfold vp_V
  rw [List.getD_eq_getElem?_getD, jm_fs_at hk]
  rfl
theorem jm_ob_o {dA : Nat → ClassId} {base b : Nat} {H : jm_H} {r ci : Nat} (ht : jm_tg H r = ci + 1) (hc : ci < 13) : jm_ob dA base b H r = .inr (ci, jm_fs base b H r ci) := by
  unfold jm_ob
  rw [ht, if_pos (by omega)]
  rfl
theorem jm_ob_a {dA : Nat → ClassId} {base b : Nat} {H : jm_H} {r t : Nat} (ht : jm_tg H r = 100 + t) : jm_ob dA base b H r = .inl (dA t, jm_ln H r, jm_ar base b H r (100 + t)) := by
  unfold jm_ob
  rw [ht, if_neg (by omega), Nat.add_sub_cancel_left]
/-- a change of one place of one map leaves the other objects -/
theorem jm_ob_eq {dA : Nat → ClassId} {base b : Nat} {H H' : jm_H} {r' : Nat} (h1 : jm_tg H' = jm_tg H) (h2 : jm_ln H' = jm_ln H) (h3 : jm_I H' r' = jm_I H r') (h4 : jm_L H' r' = jm_L H r') (h5 : jm_R H' r' = jm_R H r') : jm_ob dA base b H' r' = jm_ob dA base b H r' := by
  unfold jm_ob jm_fs jm_fv jm_ar
  rw [h1, h2, h3, h4, h5]
theorem jm_u2_ne {α : Type} (f : Nat → Nat → α) {a k : Nat} (v : α) {r' : Nat} (h : r' ≠ a) : jm_u2 f a k v r' = f r' := by
  funext j
  unfold jm_u2
  rw [show Nat.beq r' a = false from jm_bne h]
  rfl
theorem jm_u2_at {α : Type} (f : Nat → Nat → α) (a k : Nat) (v : α) (j : Nat) : jm_u2 f a k v a j = if j = k then v else f a j := by
  unfold jm_u2
  rw [Nat.beq_refl, Bool.true_and]
  by_cases h : j = k
  · rw [if_pos h, h, Nat.beq_refl]; rfl
  · rw [if_neg h, show Nat.beq j k = false from jm_bne h]; rfl
theorem jm_pI_ob {dA : Nat → ClassId} {base b : Nat} (H : jm_H) (r k : Nat) (v : Int32) {r' : Nat} (h : r' ≠ r) : jm_ob dA base b (jm_pI H r k v) r' = jm_ob dA base b H r' := jm_ob_eq rfl rfl (jm_u2_ne _ v h) rfl rfl
theorem jm_pL_ob {dA : Nat → ClassId} {base b : Nat} (H : jm_H) (r k : Nat) (v : Int64) {r' : Nat} (h : r' ≠ r) : jm_ob dA base b (jm_pL H r k v) r' = jm_ob dA base b H r' := jm_ob_eq rfl rfl rfl (jm_u2_ne _ v h) rfl
theorem jm_pR_ob {dA : Nat → ClassId} {base b : Nat} (H : jm_H) (r k : Nat) (v : Nat) {r' : Nat} (h : r' ≠ r) : jm_ob dA base b (jm_pR H r k v) r' = jm_ob dA base b H r' := jm_ob_eq rfl rfl rfl rfl (jm_u2_ne _ v h)
section JHP
variable {p : Program} {l : Launch} {e : Env} {R : Room} {s : State} {m : MethodId} {args : Array Value} {below : List Frame} {meth : Method} {c : Code} {M : Heap} {locs : List Loc} {cells slots : Nat} {Q : State → Prop}
variable {pc : Nat} {A : Array Slot} {base b L : Nat} {xs : Nat → Int32} {H00 : Heap} {D : va_G} {dA : Nat → ClassId} {mi : Nat} {H : jm_H} {rest : List Value}
theorem jm_one {D : va_G} {M : Heap} {q : Nat × va_E} (h : va_at D jm_cl0 q M) : va_P D jm_cl0 [q] M := by
  intro k x hk
  have hz : k < 1 := (List.getElem?_eq_some_iff.mp hk).1
  rw [show k = 0 by omega] at hk
  cases hk
  exact h
set_option maxHeartbeats 1000000 in
theorem jm_get_s {r ci k idx : Nat} (C : jm_Cx D dA base b L xs H00 mi p s m args meth c) (hW : jm_W0 D dA base b H00 M H) (ht : jm_tg H r = ci + 1) (hci : ci < 13) (hk : k < jm_N ci)
    (hl : Cond.fieldLink (jm_y mi).cls idx (jm_T ci k).1 (jm_T ci k).2.1 (jm_T ci k).2.2.1 ∈ jm_tb) (hdg : decode (jm_b mi) pc = .ok (.getfield idx, 3))
    (kk : W p l e R s m args below meth c M locs cells slots Q (F0 m (pc + 3) A (jm_cv base b (jm_fv H r ci k) :: rest))) : W p l e R s m args below meth c M locs cells slots Q (F0 m pc A (.ref (jm_ad base b r) :: rest)) := by
  obtain ⟨hx, hb, -, -, hown, hts, -, -, hK, -⟩ := C
  have hat := (hW.P (r := r) (by omega)).2.2
  rw [jm_ob_o ht hci] at hat
  exact va_get (C := jm_C ci) (T := jm_T ci) (N := jm_N ci) (ci := ci) hx hb hts (jm_lay_in hci) hown hK.1 (jm_one hat) 0 rfl (jm_cl_at hci) k hk (hts _ hl) (fun _ h => h) (jm_fs_at hk) hdg kk
set_option maxHeartbeats 2000000 in
theorem jm_put_s {r ci k idx : Nat} {v : Value} {H' : jm_H} (C : jm_Cx D dA base b L xs H00 mi p s m args meth c) (hW : jm_W0 D dA base b H00 M H) (ht : jm_tg H r = ci + 1) (hci : ci < 13) (hk : k < jm_N ci)
    (hl : Cond.fieldLink (jm_y mi).cls idx (jm_T ci k).1 (jm_T ci k).2.1 (jm_T ci k).2.2.1 ∈ jm_tb) (hdg : decode (jm_b mi) pc = .ok (.putfield idx, 3))
    (hfin : (jm_T ci k).2.2.2 = true → (jm_y mi).name = "<init>" ∧ (jm_y mi).cls = (jm_T ci k).1) (hn : narrow (jm_ty ci k) v = v) (hfit : fits (jm_ty ci k) v = true)
    (h1 : jm_n H' = jm_n H) (h2 : jm_tg H' = jm_tg H) (hob : ∀ r', r' ≠ r → jm_ob dA base b H' r' = jm_ob dA base b H r') (hv : ∀ j, j < jm_N ci → jm_cv base b (jm_fv H' r ci j) = if j = k then v else jm_cv base b (jm_fv H r ci j))
    (hlo : ∀ q ∈ locs, base ≤ q.base) (kk : ∀ (M' : Heap) (locs' : List Loc), jm_W0 D dA base b H00 M' H' → (∀ q ∈ locs', base ≤ q.base) → W p l e R s m args below meth c M' locs' cells slots Q (F0 m (pc + 3) A rest)) :
    W p l e R s m args below meth c M locs cells slots Q (F0 m pc A (v :: .ref (jm_ad base b r) :: rest)) := by
  obtain ⟨hx, hb, -, -, hown, hts, -, hin, hK, -⟩ := C
  have htn : jm_tg H r ≠ 0 := by omega
  obtain ⟨hr1, hr2, hat⟩ := hW.P htn
  have hbase := (hW.lt htn).2
  rw [jm_ob_o ht hci] at hat
  obtain ⟨rr, e1, cell, q1, q2, q3, q4⟩ := hat
  have hrr : rr = (jm_C ci, jm_T ci, jm_N ci) := Option.some.inj (e1.symm.trans (jm_cl_at hci))
  subst hrr
  obtain ⟨hS, hfc, kC, hkC, hkind⟩ := hK.1.1 ci _ (jm_cl_at hci)
  obtain ⟨cf, kf, fi, f, hi, hsl⟩ := hS k hk
  have hap := va_apart (own := (jm_y mi).cls) hts (jm_lay_in hci) (jm_ty ci) (jm_cl_ok hci).2 (jm_cl_ok hci).1 hK.1 (jm_cl_at hci)
  have hst := (u_facts hfc hkC (u_lays hts (jm_lay_in hci) hk) hi).1
  have hd := (jm_cl_ok hci).2 k hk
  have hend : ∀ M' : Heap, M'[jm_ad base b r]? = some (cell.setSlot f.slot v) → M'.size = M.size → (∀ q, q ≠ jm_ad base b r → M'[q]? = M[q]?) → W p l e R s m args below meth c M' (locs ++ [⟨jm_ad base b r, f.slot⟩]) cells slots Q (F0 m (pc + 3) A rest) := by
    intro M' g1 g2 g3
    refine kk M' _ (hW.set htn h1 h2 g2 g3 hob ?_) ?_
    · rw [jm_ob_o (by rw [h2]; exact ht) hci]
      rw [hsl] at g1
      refine ⟨_, jm_cl_at hci, t_OB.to (V := updV (vp_V (jm_fs base b H r ci)) k v) ⟨_, g1, q2, q3, t_set q4 hap hk v⟩ (fun j hj => ?_)⟩
      show updV (vp_V (jm_fs base b H r ci)) k v j = vp_V (jm_fs base b H' r ci) j
      rw [jm_fs_V hj, hv j hj]
      unfold updV
      by_cases e : j = k
      · rw [if_pos e, if_pos e]
      · rw [if_neg e, if_neg e, jm_fs_V hj]
    · intro q hq
      rcases List.mem_append.mp hq with h | h
      · exact hlo q h
      · rw [List.mem_singleton.mp h]
        exact hbase
  have hlay := hts _ (jm_lay_in hci _ (u_in_lay hk))
  unfold u_lay at hlay
  by_cases hF : (jm_T ci k).2.2.2 = true
  · rw [if_pos hF] at hlay
    obtain ⟨hn1, hn2⟩ := hfin hF
    have hcf : m.cls = cf := by
      obtain ⟨_, _, c', _, _, _, -, -, hf', -, -, -, hown2, -⟩ := Cond.laysFinal_spec hlay
      have e1 : c' = cf := by have := hi.symm.trans hf'; simp at this; exact this.1.symm
      rw [← hn2] at hown2
      rw [← e1]; exact Option.some.inj (hown.symm.trans hown2)
    have h6 := u_fits hfc hkC hkind (Or.inr hlay) hi hd hn hfit
    exact W.putFinK hx hb hown (hts _ hl) hi hst hcf (hin hn1) (by rw [q2]; exact h6) q1 q3 (by rw [hsl]; exact k2_hasslot (q4 k hk)) rfl rfl hdg fun M' g1 g2 g3 => hend M' g1 g2 g3
  · rw [if_neg hF] at hlay
    have h6 := u_store hfc hkC hkind hlay hi hd hn hfit
    exact W.putK hx hb (f := f) ⟨hown, hts _ hl, ⟨_, _, _, hi⟩, hst⟩ (by rw [q2]; exact h6) q1 q3 (by rw [hsl]; exact k2_hasslot (q4 k hk)) rfl rfl hdg fun M' g1 g2 g3 => hend M' g1 g2 g3
theorem jm_ar_i {base b : Nat} {H : jm_H} {r t : Nat} (h : t = 100 ∨ t = 102 ∨ t = 103) : jm_ar base b H r t = .inl (jm_I H r) := by
  unfold jm_ar
  rw [if_neg (by omega), if_neg (by omega)]
theorem jm_ar_l {base b : Nat} {H : jm_H} {r : Nat} : jm_ar base b H r 101 = .inr (.inl (jm_L H r)) := rfl
theorem jm_ar_q {base b : Nat} {H : jm_H} {r t : Nat} (h : t = 104 ∨ t = 105) : jm_ar base b H r t = .inr (.inr (.inr (.inr (fun j => jm_rf base b (jm_R H r j))))) := by
  unfold jm_ar
  rw [if_neg (by omega), if_pos h]
/-- an array's cell, and its kind -/
theorem jm_arr {t r : Nat} (hW : jm_W0 D dA base b H00 M H) (ht : jm_tg H r = 100 + t) (h6 : t < 6) (hK : jm_K D dA b L xs H00 s) : M[jm_ad base b r]? = some (vp_cell (dA t) (jm_ln H r, jm_ar base b H r (100 + t))) ∧ ArrOfT s (dA t) (jm_aty t) := by
  have hat := (hW.P (r := r) (by omega)).2.2
  rw [jm_ob_a ht] at hat
  exact ⟨hat, (hK.1.2 t _ (jm_tys_at h6)).1⟩
/-- an array's place is written -/
theorem jm_ast {t r j : Nat} {H' : jm_H} {M' : Heap} (hW : jm_W0 D dA base b H00 M H) (ht : jm_tg H r = 100 + t) (h1 : jm_n H' = jm_n H) (h2 : jm_tg H' = jm_tg H) (h3 : jm_ln H' = jm_ln H) (hob : ∀ r', r' ≠ r → jm_ob dA base b H' r' = jm_ob dA base b H r')
    {v : Value} (hc : (vp_cell (dA t) (jm_ln H r, jm_ar base b H r (100 + t))).setSlot j v = vp_cell (dA t) (jm_ln H r, jm_ar base b H' r (100 + t)))
    (hat : M'[jm_ad base b r]? = some ((vp_cell (dA t) (jm_ln H r, jm_ar base b H r (100 + t))).setSlot j v)) (hz : M'.size = M.size) (ho : ∀ q : Nat, q ≠ jm_ad base b r → M'[q]? = M[q]?) : jm_W0 D dA base b H00 M' H' := by
  refine hW.set (r := r) (by omega) h1 h2 hz ho hob ?_
  rw [jm_ob_a (by rw [h2]; exact ht), h3]
  show M'[_]? = some (vp_cell _ _)
  rw [hat, hc]
theorem jm_loc1 {a j base : Nat} (hlo : ∀ q ∈ locs, base ≤ q.base) (h : base ≤ a) : ∀ q ∈ locs ++ [⟨a, j⟩], base ≤ q.base := by
  intro q hq
  rcases List.mem_append.mp hq with h1 | h1
  · exact hlo q h1
  · rw [List.mem_singleton.mp h1]
    exact h
theorem jm_upd_I (H : jm_H) (r j : Nat) (v : Int32) : jm_I (jm_pI H r j v) r = fun q => if q = j then v else jm_I H r q := by
  funext q
  exact jm_u2_at _ _ _ _ _
theorem jm_upd_L (H : jm_H) (r j : Nat) (v : Int64) : jm_L (jm_pL H r j v) r = fun q => if q = j then v else jm_L H r q := by
  funext q
  exact jm_u2_at _ _ _ _ _
theorem jm_upd_R (H : jm_H) (r j : Nat) (v : Nat) : jm_R (jm_pR H r j v) r = fun q => if q = j then v else jm_R H r q := by
  funext q
  exact jm_u2_at _ _ _ _ _
theorem jm_sI {cA : ClassId} {n r j : Nat} {v : Int32} : (vp_cell cA (n, .inl (jm_I H r))).setSlot j (.int v) = vp_cell cA (n, .inl (jm_I (jm_pI H r j v) r)) := by
  rw [vp_cell_i, vp_cell_i, arrV_store]
  congr 1
  funext q
  rw [jm_upd_I]
  unfold updV
  dsimp only
  by_cases e : q = j
  · rw [if_pos e, if_pos e]
  · rw [if_neg e, if_neg e]
theorem jm_sL {cA : ClassId} {n r j : Nat} {v : Int64} : (vp_cell cA (n, .inr (.inl (jm_L H r)))).setSlot j (.long v) = vp_cell cA (n, .inr (.inl (jm_L (jm_pL H r j v) r))) := by
  rw [vp_cell_l, vp_cell_l, arrV_store]
  congr 1
  funext q
  rw [jm_upd_L]
  unfold updV
  dsimp only
  by_cases e : q = j
  · rw [if_pos e, if_pos e]
  · rw [if_neg e, if_neg e]
theorem jm_sR {cA : ClassId} {n r j x : Nat} (hx : x ≠ 0) : (vp_cell cA (n, .inr (.inr (.inr (.inr (fun k => jm_rf base b (jm_R H r k))))))).setSlot j (.ref (jm_ad base b x)) = vp_cell cA (n, .inr (.inr (.inr (.inr (fun k => jm_rf base b (jm_R (jm_pR H r j x) r k)))))) := by
  rw [vp_cell_q, vp_cell_q, arrV_store]
  congr 1
  funext q
  rw [jm_upd_R]
  unfold updV
  by_cases e : q = j
  · rw [if_pos e]
    show _ = va_rf (jm_rf base b (if q = j then x else _))
    rw [if_pos e]
    unfold jm_rf
    rw [if_neg hx]
    rfl
  · rw [if_neg e]
    show _ = va_rf (jm_rf base b (if q = j then x else _))
    rw [if_neg e]
end JHP
end
section
section JHM
variable {p : Program} {l : Launch} {e : Env} {R : Room} {s : State} {m : MethodId} {args : Array Value} {below : List Frame} {meth : Method} {c : Code} {M : Heap} {locs : List Loc} {cells slots : Nat} {Q : State → Prop}
variable {pc : Nat} {A : Array Slot} {base b L : Nat} {xs : Nat → Int32} {H00 : Heap} {D : va_G} {dA : Nat → ClassId} {mi : Nat} {H : jm_H}
theorem jm_lnk_own {idx : Nat} {e : Nat × Nat × Nat × Int} (hm : jm_xm mi = true) (h : jm_rs (jm_ci mi) idx = some e) : (∀ w ∈ jm_wd (jm_y mi).cls idx e, w ∈ jm_tb) ∧ ∃ ps, jm_xk (jm_ci mi) (idx, e, ps) = true := by
  have := jm_lnk h
  rw [jm_xm_own hm] at this
  exact this
theorem jm_rv_of {ins : Instr} {idx : Nat} (hi : jm_ix ins = some idx) (h : (jm_rv mi ins).1 ≠ 99) : jm_rs (jm_ci mi) idx = some (jm_rv mi ins) := by
  unfold jm_rv at h ⊢
  rw [hi] at h ⊢
  dsimp only at h ⊢
  cases hr : jm_rs (jm_ci mi) idx with
  | none => rw [hr] at h; exact absurd rfl h
  | some e => rfl
/-- a link's facts, by its kind -/
theorem jm_link {ins : Instr} {idx k : Nat} (hm : jm_xm mi = true) (hi : jm_ix ins = some idx) (hk : (jm_rv mi ins).1 = k) (hk9 : k < 99) : (∀ w ∈ jm_wd (jm_y mi).cls idx (jm_rv mi ins), w ∈ jm_tb) ∧ ∃ ps, jm_xk (jm_ci mi) (idx, jm_rv mi ins, ps) = true :=
  jm_lnk_own hm (jm_rv_of hi (by rw [hk]; omega))
theorem jm_xk0 {ci idx : Nat} {e : Nat × Nat × Nat × Int} {ps : List Nat} (h : jm_xk ci (idx, e, ps) = true) (h0 : e.1 = 0) : e.2.1 < 13 ∧ e.2.2.1 < jm_N e.2.1 := by
  unfold jm_xk at h
  rw [Bool.and_eq_true] at h
  have h2 := h.2
  dsimp only at h2
  rw [h0] at h2
  simpa using h2
theorem jm_xk6 {ci idx : Nat} {e : Nat × Nat × Nat × Int} {ps : List Nat} (h : jm_xk ci (idx, e, ps) = true) (h0 : e.1 = 6) : e.2.1 < 13 ∧ e.2.2.1 = jm_N e.2.1 := by
  unfold jm_xk at h
  rw [Bool.and_eq_true] at h
  have h2 := h.2
  dsimp only at h2
  rw [h0] at h2
  simpa using h2
theorem jm_xk7 {ci idx : Nat} {e : Nat × Nat × Nat × Int} {ps : List Nat} (h : jm_xk ci (idx, e, ps) = true) (h0 : e.1 = 7) : (e.2.1 = 104 ∧ e.2.2.1 = 6) ∨ (e.2.1 = 105 ∧ e.2.2.1 = 5) := by
  unfold jm_xk at h
  rw [Bool.and_eq_true] at h
  have h2 := h.2
  dsimp only at h2
  rw [h0] at h2
  simpa using h2
/-- the start of a fresh array or object: all zero -/
theorem jm_mk_I (H : jm_H) (t len sl : Nat) : jm_I (jm_mk H t len sl) (jm_n H + 2) = fun _ => 0 := by
  funext j
  show cond (Nat.beq (jm_n H + 2) (jm_n H + 2)) _ _ = _
  rw [Nat.beq_refl]; rfl
theorem jm_mk_L (H : jm_H) (t len sl : Nat) : jm_L (jm_mk H t len sl) (jm_n H + 2) = fun _ => 0 := by
  funext j
  show cond (Nat.beq (jm_n H + 2) (jm_n H + 2)) _ _ = _
  rw [Nat.beq_refl]; rfl
theorem jm_mk_R (H : jm_H) (t len sl : Nat) : jm_R (jm_mk H t len sl) (jm_n H + 2) = fun _ => 0 := by
  funext j
  show cond (Nat.beq (jm_n H + 2) (jm_n H + 2)) _ _ = _
  rw [Nat.beq_refl]; rfl
theorem jm_mk_tg (H : jm_H) (t len sl : Nat) : jm_tg (jm_mk H t len sl) (jm_n H + 2) = t := by
  show cond (Nat.beq (jm_n H + 2) (jm_n H + 2)) _ _ = _
  rw [Nat.beq_refl]; rfl
theorem jm_mk_ln (H : jm_H) (t len sl : Nat) : jm_ln (jm_mk H t len sl) (jm_n H + 2) = len := by
  show cond (Nat.beq (jm_n H + 2) (jm_n H + 2)) _ _ = _
  rw [Nat.beq_refl]; rfl
theorem jm_ad_new (base b n : Nat) : jm_ad base b (n + 2) = base + n := by
  unfold jm_ad
  rw [if_neg (by omega)]
  omega
set_option maxHeartbeats 2000000 in
theorem jm_newa_s {t : Nat} {at_ : ArrayType} {n : Int32} {rest : List Value} (C : jm_Cx D dA base b L xs H00 mi p s m args meth c) (hW : jm_W0 D dA base b H00 M H) (ht : t < 4) (hty : newarray.typeOf at_ = jm_aty t) (hw : Cond.arrayClass (newarray.typeOf at_) ∈ jm_tb)
    (hn : ¬ n < 0) (hN : n.toNatClampNeg ≤ 60000000) (hc : cells + 1 ≤ R.cells) (hs : slots + n.toNatClampNeg ≤ R.slots) (hdg : decode (jm_b mi) pc = .ok (.newarray at_, 2))
    (kk : ∀ M' : Heap, jm_W0 D dA base b H00 M' (jm_mk H (100 + t) n.toNatClampNeg n.toNatClampNeg) → W p l e R s m args below meth c M' locs (cells + 1) (slots + n.toNatClampNeg) Q (F0 m (pc + 2) A (.ref (jm_ad base b (jm_n H + 2)) :: rest))) : W p l e R s m args below meth c M locs cells slots Q (F0 m pc A (.int n :: rest)) := by
  obtain ⟨hx, hb, -, -, hown, hts, -, -, hK, -⟩ := C
  have hby : n.toNatClampNeg * componentBytes (newarray.typeOf at_) ≤ 536870912 := by
    have : componentBytes (newarray.typeOf at_) ≤ 8 := by cases at_ <;> decide
    calc n.toNatClampNeg * componentBytes (newarray.typeOf at_) ≤ 60000000 * 8 := Nat.mul_le_mul hN this
      _ ≤ 536870912 := by decide
  refine va_newaK hx hb (hts _ hw) rfl hdg rfl hn rfl hby hc hs rfl fun M' cA e1 z1 o1 hAr hNm => ?_
  have hcA : cA = dA t := by
    have h2 := (hK.1.2 t _ (jm_tys_at (by omega))).2
    rw [hty] at hNm
    match t, ht with
    | 0, _ => exact Option.some.inj (hNm.symm.trans h2)
    | 1, _ => exact Option.some.inj (hNm.symm.trans h2)
    | 2, _ => exact Option.some.inj (hNm.symm.trans h2)
    | 3, _ => exact Option.some.inj (hNm.symm.trans h2)
  subst hcA
  have hk := kk M' (hW.add (Or.inr (by omega)) z1 o1 ?_)
  · rw [jm_ad_new, ← hW.1] at hk
    exact hk
  · rw [jm_ob_a (by rw [jm_mk_tg])]
    show M'[M.size]? = some (vp_cell _ _)
    rw [e1, jm_mk_ln, hty]
    match t, ht with
    | 0, _ => rw [jm_ar_i (by omega), jm_mk_I]; rfl
    | 1, _ => rw [jm_ar_l, jm_mk_L]; rfl
    | 2, _ => rw [jm_ar_i (by omega), jm_mk_I]; rfl
    | 3, _ => rw [jm_ar_i (by omega), jm_mk_I]; rfl
set_option maxHeartbeats 2000000 in
theorem jm_newq_s {t idx ci : Nat} {n : Int32} {rest : List Value} (C : jm_Cx D dA base b L xs H00 mi p s m args meth c) (hW : jm_W0 D dA base b H00 M H) (ht : (t = 4 ∧ ci = 6) ∨ (t = 5 ∧ ci = 5)) (hw1 : Cond.classLink (jm_y mi).cls idx (jm_C ci) ∈ jm_tb) (hw2 : Cond.arrayOver (.object (jm_C ci)) ∈ jm_tb)
    (hn : ¬ n < 0) (hN : n.toNatClampNeg ≤ 60000000) (hc : cells + 1 ≤ R.cells) (hs : slots + n.toNatClampNeg ≤ R.slots) (hdg : decode (jm_b mi) pc = .ok (.anewarray idx, 3))
    (kk : ∀ M' : Heap, jm_W0 D dA base b H00 M' (jm_mk H (100 + t) n.toNatClampNeg n.toNatClampNeg) → W p l e R s m args below meth c M' locs (cells + 1) (slots + n.toNatClampNeg) Q (F0 m (pc + 3) A (.ref (jm_ad base b (jm_n H + 2)) :: rest))) : W p l e R s m args below meth c M locs cells slots Q (F0 m pc A (.int n :: rest)) := by
  obtain ⟨hx, hb, -, -, hown, hts, -, -, hK, -⟩ := C
  refine W.anew hx hb hown (hts _ hw1) (hts _ hw2) rfl hdg rfl hn (by omega) hc hs fun cA kA comp f1 f2 f3 f4 => ?_
  generalize hH1 : M.push ({ cls := cA, slots := Array.replicate n.toNatClampNeg .null, vm := .none } : Cell) = M'
  have z1 : M'.size = M.size + 1 := by rw [← hH1, Array.size_push]
  have e1 : M'[M.size]? = some (arrV cA n.toNatClampNeg (fun _ => .null)) := by rw [← hH1, Array.getElem?_push_size, ← arrV_new]
  have o1 : ∀ q : Nat, q < M.size → M'[q]? = M[q]? := fun q hq => by rw [← hH1, Array.getElem?_push, if_neg (Nat.ne_of_lt hq)]
  have hcA : cA = dA t := by
    obtain ⟨kA', comp', g1, g2, g3, g4⟩ : va_RA s (dA t) (.object (jm_C ci)) := by
      have h2 := (hK.1.2 t _ (jm_tys_at (by omega))).2
      rcases ht with ⟨rfl, rfl⟩ | ⟨rfl, rfl⟩ <;> exact h2
    exact Option.some.inj (f1.symm.trans g4)
  subst hcA
  have hk := kk M' (hW.add (Or.inr (by omega)) z1 o1 ?_)
  · rw [jm_ad_new, ← hW.1] at hk
    exact hk
  · rw [jm_ob_a (by rw [jm_mk_tg])]
    show M'[M.size]? = some (vp_cell _ _)
    rw [e1, jm_mk_ln, jm_ar_q (by omega), jm_mk_R]
    rfl
theorem jm_ft9_ok : (List.range 13).all (fun ci => (List.range (jm_N ci)).all fun k => !(jm_ft ci k == 9)) = true := by decide +kernel
theorem jm_ft9 {ci k : Nat} (h : ci < 13) (hk : k < jm_N ci) : ¬ jm_ft ci k = 9 := by
  have h1 := List.all_eq_true.mp jm_ft9_ok ci (List.mem_range.mpr h)
  have h2 := List.all_eq_true.mp h1 k (List.mem_range.mpr hk)
  simpa using h2
theorem jm_dv {ci k : Nat} (hci : ci < 13) (hk : k < jm_N ci) {H : jm_H} {r : Nat} (hI : jm_I H r = fun _ => 0) (hL : jm_L H r = fun _ => 0) (hR : jm_R H r = fun _ => 0) : defaultValue (jm_ty ci k) = jm_cv base b (jm_fv H r ci k) := by
  have h := jm_tc_at hci hk
  unfold jm_fv
  rw [hI, hL, hR, ← h]
  generalize hT : jm_ty ci k = T at h ⊢
  cases T <;> try rfl
  all_goals (exfalso)
  all_goals (have h3 : jm_ft ci k = 9 := by rw [← h]; rfl)
  all_goals exact absurd h3 (jm_ft9 hci hk)
set_option maxHeartbeats 2000000 in
theorem jm_new_s {idx ci : Nat} {rest : List Value} (C : jm_Cx D dA base b L xs H00 mi p s m args meth c) (hW : jm_W0 D dA base b H00 M H) (hci : ci < 13) (hw1 : Cond.classLink (jm_y mi).cls idx (jm_C ci) ∈ jm_tb) (hw2 : Cond.instantiable (jm_C ci) (jm_N ci) ∈ jm_tb) (hw3 : Cond.initialized (jm_C ci) ∈ jm_tb)
    (hc : cells + 1 ≤ R.cells) (hs : slots + jm_N ci ≤ R.slots) (hdg : decode (jm_b mi) pc = .ok (.new idx, 3))
    (kk : ∀ M' : Heap, jm_W0 D dA base b H00 M' (jm_mk H (ci + 1) 0 (jm_N ci)) → W p l e R s m args below meth c M' locs (cells + 1) (slots + jm_N ci) Q (F0 m (pc + 3) A (.ref (jm_ad base b (jm_n H + 2)) :: rest))) : W p l e R s m args below meth c M locs cells slots Q (F0 m pc A rest) := by
  obtain ⟨hx, hb, -, -, hown, hts, -, -, hK, -⟩ := C
  have hKn := hK.1.1 ci _ (jm_cl_at hci)
  refine W.newcK hx hb hown (hts _ hw1) (hts _ hw2) (hts _ hw3) rfl hdg hc hs hKn.2.1 rfl fun M' kC hkC e1 z1 o1 => ?_
  have hk := kk M' (hW.add (Or.inl (by omega)) z1 o1 ?_)
  · rw [jm_ad_new, ← hW.1] at hk
    exact hk
  · rw [jm_ob_o (by rw [jm_mk_tg]) hci]
    refine ⟨_, jm_cl_at hci, (u_born (jm_ty ci) hts (jm_lay_in hci) hKn hkC e1 (jm_cl_ok hci).2).to (fun j hj => ?_)⟩
    show _ = vp_V (jm_fs base b _ _ ci) j
    rw [jm_fs_V hj]
    exact jm_dv hci hj (jm_mk_I _ _ _ _) (jm_mk_L _ _ _ _) (jm_mk_R _ _ _ _)
end JHM
end
section
section JHS
variable {p : Program} {l : Launch} {e : Env} {R : Room} {s : State} {m : MethodId} {args : Array Value} {below : List Frame} {meth : Method} {c : Code} {M : Heap} {locs : List Loc} {cells slots : Nat} {Q : State → Prop}
variable {pc : Nat} {A : Array Slot} {base b L : Nat} {xs : Nat → Int32} {H00 : Heap} {D : va_G} {dA : Nat → ClassId} {mi : Nat} {H : jm_H}
theorem jm_opx : jm_op.map (fun p => lw_tbl[p]?) = ([.code Lib.objectInit object_method_1_code 1 none, .instanceMethod Lib.objectInit, .arrayClass .int, .arrayClass .long, .arrayClass .byte, .arrayClass .boolean, .arrayOver (.object "TaperedNumbers$State"), .arrayOver (.object "TaperedNumbers$Slot")] : List Jvm.Cond).map some := by decide +kernel
theorem jm_ac0 : Cond.arrayClass (newarray.typeOf .int) ∈ jm_tb := jm_tb_in (jm_plc jm_opx _ (List.mem_of_getElem? (i := 2) rfl)) rfl
theorem jm_ac1 : Cond.arrayClass (newarray.typeOf .long) ∈ jm_tb := jm_tb_in (jm_plc jm_opx _ (List.mem_of_getElem? (i := 3) rfl)) rfl
theorem jm_ac2 : Cond.arrayClass (newarray.typeOf .byte) ∈ jm_tb := jm_tb_in (jm_plc jm_opx _ (List.mem_of_getElem? (i := 4) rfl)) rfl
theorem jm_ac3 : Cond.arrayClass (newarray.typeOf .boolean) ∈ jm_tb := jm_tb_in (jm_plc jm_opx _ (List.mem_of_getElem? (i := 5) rfl)) rfl
theorem jm_wd0 {own : String} {idx : Nat} {e : Nat × Nat × Nat × Int} (h : e.1 = 0) : jm_wd own idx e = [.fieldLink own idx (jm_T e.2.1 e.2.2.1).1 (jm_T e.2.1 e.2.2.1).2.1 (jm_T e.2.1 e.2.2.1).2.2.1] := by unfold jm_wd; rw [h]; rfl
theorem jm_wd6 {own : String} {idx : Nat} {e : Nat × Nat × Nat × Int} (h : e.1 = 6) : jm_wd own idx e = [.classLink own idx (jm_C e.2.1), .instantiable (jm_C e.2.1) e.2.2.1, .initialized (jm_C e.2.1)] := by unfold jm_wd; rw [h]; rfl
theorem jm_wd7 {own : String} {idx : Nat} {e : Nat × Nat × Nat × Int} (h : e.1 = 7) : jm_wd own idx e = [.classLink own idx (jm_C e.2.2.1), .arrayOver (.object (jm_C e.2.2.1))] := by unfold jm_wd; rw [h]; rfl
theorem jm_wd8 {own : String} {idx : Nat} {e : Nat × Nat × Nat × Int} (h : e.1 = 8) : jm_wd own idx e = [.constant own idx (Int32.ofInt e.2.2.2)] := by unfold jm_wd; rw [h]; rfl
theorem jm_wd9 {own : String} {idx : Nat} {e : Nat × Nat × Nat × Int} (h : e.1 = 9) : jm_wd own idx e = [.constantLong own idx (Int64.ofInt e.2.2.2)] := by unfold jm_wd; rw [h]; rfl
theorem jm_gf_s {a k r : Nat} {q st' : List Value} {H' : jm_H} (h : jm_gf a k r q H = some (st', H')) : H' = H ∧ st' = jm_fv H r a k :: q := by
  unfold jm_gf at h
  unfold jm_fv
  split at h
  · next e => cases h; rw [e]; exact ⟨rfl, rfl⟩
  · next e => cases h; rw [e]; exact ⟨rfl, rfl⟩
  · next e => cases h; rw [e]; exact ⟨rfl, rfl⟩
  · next e =>
    split at h
    · cases h
    · next hr => cases h; rw [e]; exact ⟨rfl, by simp only [if_neg hr]⟩
  · cases h
/-- what a write of a field does to the object's values -/
theorem jm_fv_I {r a k j : Nat} {x : Int32} (hk : jm_ft a k = 0 ∨ jm_ft a k = 3) : jm_cv base b (jm_fv (jm_pI H r k x) r a j) = if j = k then .int x else jm_cv base b (jm_fv H r a j) := by
  by_cases e : j = k
  · subst e
    rw [if_pos rfl]
    unfold jm_fv
    rw [jm_upd_I]
    rcases hk with h | h <;> rw [h] <;> simp [jm_cv]
  · rw [if_neg e]
    unfold jm_fv
    rw [jm_upd_I]
    simp only [if_neg e]
    rfl
theorem jm_fv_L {r a k j : Nat} {x : Int64} (hk : jm_ft a k = 1) : jm_cv base b (jm_fv (jm_pL H r k x) r a j) = if j = k then .long x else jm_cv base b (jm_fv H r a j) := by
  by_cases e : j = k
  · subst e
    rw [if_pos rfl]
    unfold jm_fv
    rw [jm_upd_L, hk]
    simp [jm_cv]
  · rw [if_neg e]
    unfold jm_fv
    rw [jm_upd_L]
    simp only [if_neg e]
    rfl
theorem jm_fv_R {r a k j x : Nat} (hk : jm_ft a k = 2) (hx : ¬ x = 0) : jm_cv base b (jm_fv (jm_pR H r k x) r a j) = if j = k then .ref (jm_ad base b x) else jm_cv base b (jm_fv H r a j) := by
  by_cases e : j = k
  · subst e
    rw [if_pos rfl]
    unfold jm_fv
    rw [jm_upd_R, hk]
    simp [jm_cv, hx]
  · rw [if_neg e]
    unfold jm_fv
    rw [jm_upd_R]
    simp only [if_neg e]
    rfl
theorem jm_tc0 {T : FieldType} (h : jm_tc T = 0) : T = .int := by cases T <;> first | rfl | cases h
theorem jm_tc1 {T : FieldType} (h : jm_tc T = 1) : T = .long := by cases T <;> first | rfl | cases h
theorem jm_tc3 {T : FieldType} (h : jm_tc T = 3) : T = .boolean := by cases T <;> first | rfl | cases h
theorem jm_tc2 {T : FieldType} (h : jm_tc T = 2) (a : Nat) : narrow T (.ref a) = .ref a ∧ fits T (.ref a) = true := by cases T <;> first | exact ⟨rfl, rfl⟩ | cases h
theorem jm_b01 {x : Int32} (h : x = 0 ∨ x = 1) : narrow .boolean (.int x) = .int x ∧ fits .boolean (.int x) = true := by
  rcases h with rfl | rfl <;> exact ⟨by decide +kernel, by decide +kernel⟩
set_option maxHeartbeats 4000000 in
theorem jm_pf_s {a k : Nat} {idx : Nat} {st st' : List Value} {H' : jm_H} (C : jm_Cx D dA base b L xs H00 mi p s m args meth c) (hW : jm_W0 D dA base b H00 M H) (ha : a < 13) (hk : k < jm_N a)
    (hl : Cond.fieldLink (jm_y mi).cls idx (jm_T a k).1 (jm_T a k).2.1 (jm_T a k).2.2.1 ∈ jm_tb) (hdg : decode (jm_b mi) pc = .ok (.putfield idx, 3))
    (hfin : (jm_T a k).2.2.2 = true → (jm_y mi).name = "<init>" ∧ (jm_y mi).cls = (jm_T a k).1) (hlo : ∀ q ∈ locs, base ≤ q.base) (h : jm_pf a k st H = some (st', H'))
    (kk : ∀ (M' : Heap) (locs' : List Loc), jm_W0 D dA base b H00 M' H' → (∀ q ∈ locs', base ≤ q.base) → W p l e R s m args below meth c M' locs' cells slots Q (F0 m (pc + 3) A (st'.map (jm_cv base b)))) :
    (jm_n H' = jm_n H ∧ jm_s H' = jm_s H) ∧ W p l e R s m args below meth c M locs cells slots Q (F0 m pc A (st.map (jm_cv base b))) := by
  have htc := jm_tc_at ha hk
  unfold jm_pf at h
  split at h
  · next x r q e =>
    split at h
    · next ht =>
      cases h
      refine ⟨⟨rfl, rfl⟩, ?_⟩
      exact jm_put_s (H' := jm_pI H r k x) (v := .int x) C hW ht ha hk hl hdg hfin (by rw [jm_tc0 (htc.trans e)]; rfl) (by rw [jm_tc0 (htc.trans e)]; rfl) rfl rfl (fun r' hr' => jm_pI_ob H r k x hr') (fun j _ => jm_fv_I (Or.inl e)) hlo kk
    · cases h
  · next x r q e =>
    split at h
    · next ht =>
      cases h
      refine ⟨⟨rfl, rfl⟩, ?_⟩
      exact jm_put_s (H' := jm_pI H r k x) (v := .int x) C hW ht.1 ha hk hl hdg hfin (by rw [jm_tc3 (htc.trans e)]; exact (jm_b01 ht.2).1) (by rw [jm_tc3 (htc.trans e)]; exact (jm_b01 ht.2).2) rfl rfl (fun r' hr' => jm_pI_ob H r k x hr') (fun j _ => jm_fv_I (Or.inr e)) hlo kk
    · cases h
  · next x r q e =>
    split at h
    · next ht =>
      cases h
      refine ⟨⟨rfl, rfl⟩, ?_⟩
      exact jm_put_s (H' := jm_pL H r k x) (v := .long x) C hW ht ha hk hl hdg hfin (by rw [jm_tc1 (htc.trans e)]; rfl) (by rw [jm_tc1 (htc.trans e)]; rfl) rfl rfl (fun r' hr' => jm_pL_ob H r k x hr') (fun j _ => jm_fv_L e) hlo kk
    · cases h
  · next x r q e =>
    split at h
    · next ht =>
      cases h
      refine ⟨⟨rfl, rfl⟩, ?_⟩
      exact jm_put_s (H' := jm_pR H r k x) (v := .ref (jm_ad base b x)) C hW ht.1 ha hk hl hdg hfin (jm_tc2 (htc.trans e) _).1 (jm_tc2 (htc.trans e) _).2 rfl rfl (fun r' hr' => jm_pR_ob H r k x hr') (fun j _ => jm_fv_R e ht.2) hlo kk
    · cases h
  · cases h
theorem jm_xi_fin {a k : Nat} {idx : Nat} (h : jm_xi mi (pc, .putfield idx) = true) (ha : a < 13) (hk : k < jm_N a) (hr : (jm_rv mi (.putfield idx)).2.1 = a ∧ (jm_rv mi (.putfield idx)).2.2.1 = k) : (jm_T a k).2.2.2 = true → (jm_y mi).name = "<init>" ∧ (jm_y mi).cls = (jm_T a k).1 := by
  unfold jm_xi at h
  rw [Bool.and_eq_true] at h
  have h2 := h.2
  dsimp only at h2
  rw [hr.1, hr.2, jm_fin_at ha hk] at h2
  intro hF
  rw [hF] at h2
  simpa using h2
theorem jm_vin {i : Int32} {n : Nat} (h : ¬ (i < 0 ∨ n ≤ i.toNatClampNeg)) : vp_in i n := h
set_option maxHeartbeats 8000000 in
theorem jm_hp_s {ins : Instr} {st st' : List Value} {H' : jm_H} (C : jm_Cx D dA base b L xs H00 mi p s m args meth c) (hdg : decode (jm_b mi) pc = .ok (ins, jm_len ins)) (hxi : jm_xi mi (pc, ins) = true) (hW : jm_W0 D dA base b H00 M H) (hlo : ∀ q ∈ locs, base ≤ q.base)
    (h : jm_hp (some (L, xs)) ins (jm_rv mi ins) st H = some (st', H')) (hc : cells + (jm_n H' - jm_n H) ≤ R.cells) (hs : slots + (jm_s H' - jm_s H) ≤ R.slots)
    (kk : ∀ (M' : Heap) (locs' : List Loc), jm_W0 D dA base b H00 M' H' → (∀ q ∈ locs', base ≤ q.base) → W p l e R s m args below meth c M' locs' (cells + (jm_n H' - jm_n H)) (slots + (jm_s H' - jm_s H)) Q (F0 m (pc + jm_len ins) A (st'.map (jm_cv base b)))) :
    W p l e R s m args below meth c M locs cells slots Q (F0 m pc A (st.map (jm_cv base b))) := by
  have hm : jm_xm mi = true := C.2.2.2.2.2.2.2.2.2.1
  have hx := C.1
  have hb := C.2.1
  have hown := C.2.2.2.2.1
  have hts := C.2.2.2.2.2.1
  have hK := C.2.2.2.2.2.2.2.2.1
  have hbb : b < base := C.2.2.2.2.2.2.2.2.2.2.1
  have kk0 : jm_n H' = jm_n H → jm_s H' = jm_s H → ∀ (M' : Heap) (locs' : List Loc), jm_W0 D dA base b H00 M' H' → (∀ q ∈ locs', base ≤ q.base) → W p l e R s m args below meth c M' locs' cells slots Q (F0 m (pc + jm_len ins) A (st'.map (jm_cv base b))) := by
    intro e1 e2 M' locs' a1 a2
    have := kk M' locs' a1 a2
    rw [e1, e2, Nat.sub_self, Nat.sub_self] at this
    exact this
  have hX : M[b]? = H00[b]? := hW.2.2.1 b hbb
  unfold jm_hp at h
  split at h
  · split at h
    · next i h8 =>
      cases h
      have hw := (jm_link hm (ins := .ldc i) rfl h8 (by decide)).1
      rw [jm_wd8 h8] at hw
      exact lv_ldc hx hb hown (hts _ (hw _ List.mem_cons_self)) hdg (kk0 rfl rfl M locs hW hlo)
    · cases h
  · split at h
    · next i h8 =>
      cases h
      have hw := (jm_link hm (ins := .ldc_w i) rfl h8 (by decide)).1
      rw [jm_wd8 h8] at hw
      exact lv_ldcw hx hb hown (hts _ (hw _ List.mem_cons_self)) hdg (kk0 rfl rfl M locs hW hlo)
    · cases h
  · split at h
    · next i h8 =>
      cases h
      have hw := (jm_link hm (ins := .ldc2_w i) rfl h8 (by decide)).1
      rw [jm_wd9 h8] at hw
      exact lv_ldc2 hx hb hown (hts _ (hw _ List.mem_cons_self)) hdg (kk0 rfl rfl M locs hW hlo)
    · cases h
  · next i =>
    split at h
    · next r q =>
      split at h
      · next hh =>
        obtain ⟨hw, ps, hp⟩ := jm_link hm (ins := .getfield i) rfl hh.1 (by decide)
        rw [jm_wd0 hh.1] at hw
        obtain ⟨ha, hk⟩ := jm_xk0 hp hh.1
        obtain ⟨rfl, rfl⟩ := jm_gf_s h
        exact jm_get_s C hW hh.2 ha hk (hw _ List.mem_cons_self) hdg (kk0 rfl rfl M locs hW hlo)
      · cases h
    · cases h
  · next i =>
    split at h
    · next h0 =>
      obtain ⟨hw, ps, hp⟩ := jm_link hm (ins := .putfield i) rfl h0 (by decide)
      rw [jm_wd0 h0] at hw
      obtain ⟨ha, hk⟩ := jm_xk0 hp h0
      have hpf := fun k3 => jm_pf_s (l := l) (e := e) (R := R) (below := below) (locs := locs) (cells := cells) (slots := slots) (Q := Q) (A := A) C hW ha hk (hw _ List.mem_cons_self) hdg (jm_xi_fin hxi ha hk ⟨rfl, rfl⟩) hlo h k3
      have hns : jm_n H' = jm_n H ∧ jm_s H' = jm_s H := by
        unfold jm_pf at h
        split at h
        all_goals first | (split at h <;> cases h <;> exact ⟨rfl, rfl⟩) | cases h
      exact (hpf (kk0 hns.1 hns.2)).2
    · cases h
  · next i =>
    split at h
    · next h6 =>
      cases h
      obtain ⟨hw, ps, hp⟩ := jm_link hm (ins := .new i) rfl h6 (by decide)
      rw [jm_wd6 h6] at hw
      obtain ⟨ha, hN⟩ := jm_xk6 hp h6
      rw [hN] at hw hc hs kk
      have e1 : jm_n (jm_mk H ((jm_rv mi (.new i)).2.1 + 1) 0 (jm_N (jm_rv mi (.new i)).2.1)) - jm_n H = 1 := by show jm_n H + 1 - jm_n H = 1; omega
      have e2 : jm_s (jm_mk H ((jm_rv mi (.new i)).2.1 + 1) 0 (jm_N (jm_rv mi (.new i)).2.1)) - jm_s H = jm_N (jm_rv mi (.new i)).2.1 := by show jm_s H + _ - jm_s H = _; omega
      rw [e1] at hc kk
      rw [e2] at hs kk
      exact jm_new_s C hW ha (hw _ List.mem_cons_self) (hw _ (List.mem_cons_of_mem _ List.mem_cons_self)) (hw _ (List.mem_cons_of_mem _ (List.mem_cons_of_mem _ List.mem_cons_self))) hc hs hdg fun M' hW' => kk M' locs hW' hlo
    · cases h
  · next i =>
    split at h
    · next n q =>
      split at h
      · next h7 =>
        cases h
        obtain ⟨hw, ps, hp⟩ := jm_link hm (ins := .anewarray i) rfl h7.1 (by decide)
        rw [jm_wd7 h7.1] at hw
        have e1 : jm_n (jm_mk H (jm_rv mi (.anewarray i)).2.1 n.toNatClampNeg n.toNatClampNeg) - jm_n H = 1 := by show jm_n H + 1 - jm_n H = 1; omega
        have e2 : jm_s (jm_mk H (jm_rv mi (.anewarray i)).2.1 n.toNatClampNeg n.toNatClampNeg) - jm_s H = n.toNatClampNeg := by show jm_s H + _ - jm_s H = _; omega
        rw [e1] at hc kk
        rw [e2] at hs kk
        rcases jm_xk7 hp h7.1 with ⟨g1, g2⟩ | ⟨g1, g2⟩
        · rw [g1] at kk
          exact jm_newq_s (t := 4) C hW (Or.inl ⟨rfl, g2⟩) (hw _ List.mem_cons_self) (hw _ (List.mem_cons_of_mem _ List.mem_cons_self)) h7.2.1 h7.2.2 hc hs hdg fun M' hW' => kk M' locs hW' hlo
        · rw [g1] at kk
          exact jm_newq_s (t := 5) C hW (Or.inr ⟨rfl, g2⟩) (hw _ List.mem_cons_self) (hw _ (List.mem_cons_of_mem _ List.mem_cons_self)) h7.2.1 h7.2.2 hc hs hdg fun M' hW' => kk M' locs hW' hlo
      · cases h
    · cases h
  · next t =>
    split at h
    · next n q =>
      split at h
      · next hn =>
        have e1 : ∀ t', jm_n (jm_mk H t' n.toNatClampNeg n.toNatClampNeg) - jm_n H = 1 := fun t' => by show jm_n H + 1 - jm_n H = 1; omega
        have e2 : ∀ t', jm_s (jm_mk H t' n.toNatClampNeg n.toNatClampNeg) - jm_s H = n.toNatClampNeg := fun t' => by show jm_s H + _ - jm_s H = _; omega
        split at h
        · cases h
          rw [e1] at hc kk
          rw [e2] at hs kk
          exact jm_newa_s (t := 0) C hW (by decide) rfl jm_ac0 hn.1 hn.2 hc hs hdg fun M' hW' => kk M' locs hW' hlo
        · cases h
          rw [e1] at hc kk
          rw [e2] at hs kk
          exact jm_newa_s (t := 1) C hW (by decide) rfl jm_ac1 hn.1 hn.2 hc hs hdg fun M' hW' => kk M' locs hW' hlo
        · cases h
          rw [e1] at hc kk
          rw [e2] at hs kk
          exact jm_newa_s (t := 2) C hW (by decide) rfl jm_ac2 hn.1 hn.2 hc hs hdg fun M' hW' => kk M' locs hW' hlo
        · cases h
          rw [e1] at hc kk
          rw [e2] at hs kk
          exact jm_newa_s (t := 3) C hW (by decide) rfl jm_ac3 hn.1 hn.2 hc hs hdg fun M' hW' => kk M' locs hW' hlo
        · cases h
      · cases h
    · cases h
  · split at h
    · next r q =>
      split at h
      · next hr =>
        cases h
        subst hr
        obtain ⟨scr, g1, g2, g3, g4, g5⟩ := hK.2.1
        exact W.alen (n := Int32.ofNat L) hx hb (a := b) (by rw [hX]; exact g1) g2 (by rw [g4] <;> rfl) rfl rfl hdg (kk0 rfl rfl M locs hW hlo)
      · split at h
        · next hr =>
          cases h
          obtain ⟨w1, w2, w3⟩ := hW.2.2.2 r (by omega)
          obtain ⟨t, ht⟩ : ∃ t, jm_tg H r = 100 + t := ⟨jm_tg H r - 100, by omega⟩
          have ht6 : t < 6 := by omega
          obtain ⟨g1, g2⟩ := jm_arr hW ht ht6 hK
          have hat := (hW.P (r := r) (by omega)).2.2
          rw [jm_ob_a ht] at hat
          exact va_alen (tys := jm_tys dA) hx hb hK.1 (jm_one hat) 0 t rfl (jm_tys_at ht6) rfl hdg (kk0 rfl rfl M locs hW hlo)
        · cases h
    · cases h
  · split at h
    · next i r q =>
      split at h
      · next hr =>
        subst hr
        dsimp only at h
        split at h
        · next hin =>
          cases h
          obtain ⟨scr, g1, g2, g3, g4, g5⟩ := hK.2.1
          have hlt : i.toNatClampNeg < L := Nat.not_le.mp fun q => hin (Or.inr q)
          exact W.iald (v := .int (xs i.toNatClampNeg)) hx hb (a := b) (by rw [hX]; exact g1) g2 g3 (by rw [g4]; exact hin) (g5 _ hlt) rfl rfl hdg (kk0 rfl rfl M locs hW hlo)
        · cases h
      · split at h
        · next hr =>
          cases h
          have hat := (hW.P (r := r) (by omega)).2.2
          rw [jm_ob_a (t := 0) hr.1, jm_ar_i (by omega)] at hat
          exact va_iald (tys := jm_tys dA) hx hb hK.1 (jm_one hat) 0 0 rfl (jm_tys_at (by omega)) (jm_vin hr.2) hdg (kk0 rfl rfl M locs hW hlo)
        · cases h
    · cases h
  · split at h
    · next i r q =>
      split at h
      · next hr =>
        cases h
        have hat := (hW.P (r := r) (by omega)).2.2
        rw [jm_ob_a (t := 1) hr.1, jm_ar_l] at hat
        exact va_lald (tys := jm_tys dA) hx hb hK.1 (jm_one hat) 0 1 rfl (jm_tys_at (by omega)) (jm_vin hr.2) hdg (kk0 rfl rfl M locs hW hlo)
      · cases h
    · cases h
  · split at h
    · next i r q =>
      split at h
      · next hr =>
        cases h
        have hat := (hW.P (r := r) (by omega)).2.2
        rcases hr.1 with h2 | h2
        · rw [jm_ob_a (t := 2) h2, jm_ar_i (by omega)] at hat
          exact va_bald (tys := jm_tys dA) hx hb hK.1 (jm_one hat) 0 2 rfl (jm_tys_at (by omega)) (jm_vin hr.2) hdg (kk0 rfl rfl M locs hW hlo)
        · rw [jm_ob_a (t := 3) h2, jm_ar_i (by omega)] at hat
          exact va_zald (tys := jm_tys dA) hx hb hK.1 (jm_one hat) 0 3 rfl (jm_tys_at (by omega)) (jm_vin hr.2) hdg (kk0 rfl rfl M locs hW hlo)
      · cases h
    · cases h
  · split at h
    · next i r q =>
      split at h
      · next hr =>
        cases h
        have hat := (hW.P (r := r) (by omega)).2.2
        have k1 := kk0 rfl rfl M locs hW hlo
        have e1 : jm_cv base b (.ref (jm_R H r i.toNatClampNeg)) = va_rf (jm_rf base b (jm_R H r i.toNatClampNeg)) := by
          unfold jm_rf
          rw [if_neg hr.2.2]
          rfl
        rw [List.map_cons, e1] at k1
        rcases hr.1 with h2 | h2
        · rw [jm_ob_a (t := 4) h2, jm_ar_q (by omega)] at hat
          exact va_aldq (tys := jm_tys dA) hx hb hK.1 (jm_one hat) 0 4 rfl (jm_tys_at (by omega)) (jm_vin hr.2.1) hdg k1
        · rw [jm_ob_a (t := 5) h2, jm_ar_q (by omega)] at hat
          exact va_aldq (tys := jm_tys dA) hx hb hK.1 (jm_one hat) 0 5 rfl (jm_tys_at (by omega)) (jm_vin hr.2.1) hdg k1
      · cases h
    · cases h
  · split at h
    · next x i r q =>
      split at h
      · next hr =>
        cases h
        obtain ⟨g1, g2⟩ := jm_arr (t := 0) hW hr.1 (by omega) hK
        have hbase := (hW.lt (r := r) (by omega)).2
        rw [jm_ar_i (by omega)] at g1
        refine W.iast hx hb g1 (g2 _ (fun j => .int (jm_I H r j))) (fun q => by cases q) (by show ¬ (i < 0 ∨ (arrV _ _ _).slots.size ≤ _); rw [arrV_size]; exact hr.2) rfl rfl hdg fun M' e1 z oq => ?_
        refine kk0 rfl rfl M' _ (jm_ast (t := 0) (j := i.toNatClampNeg) hW hr.1 rfl rfl rfl (fun r' hr' => jm_pI_ob H r _ x hr') (v := .int x) ?_ ?_ z oq) (jm_loc1 hlo hbase)
        · rw [jm_ar_i (by omega), jm_ar_i (by omega)]; exact jm_sI
        · rw [jm_ar_i (by omega)]; exact e1
      · cases h
    · cases h
  · split at h
    · next x i r q =>
      split at h
      · next hr =>
        cases h
        obtain ⟨g1, g2⟩ := jm_arr (t := 1) hW hr.1 (by omega) hK
        have hbase := (hW.lt (r := r) (by omega)).2
        rw [jm_ar_l] at g1
        refine W.last hx hb g1 (g2 _ (fun j => .long (jm_L H r j))) (fun q => by cases q) (by show ¬ (i < 0 ∨ (arrV _ _ _).slots.size ≤ _); rw [arrV_size]; exact hr.2) rfl rfl hdg fun M' e1 z oq => ?_
        refine kk0 rfl rfl M' _ (jm_ast (t := 1) (j := i.toNatClampNeg) hW hr.1 rfl rfl rfl (fun r' hr' => jm_pL_ob H r _ x hr') (v := .long x) ?_ ?_ z oq) (jm_loc1 hlo hbase)
        · rw [jm_ar_l, jm_ar_l]; exact jm_sL
        · rw [jm_ar_l]; exact e1
      · cases h
    · cases h
  · split at h
    · next x i r q =>
      split at h
      · next hin =>
        split at h
        · next ht =>
          cases h
          obtain ⟨g1, g2⟩ := jm_arr (t := 2) hW ht (by omega) hK
          have hbase := (hW.lt (r := r) (by omega)).2
          rw [jm_ar_i (by omega)] at g1
          refine W.bast hx hb g1 (g2 _ (fun j => .int (jm_I H r j))) (fun q => by cases q) (by show ¬ (i < 0 ∨ (arrV _ _ _).slots.size ≤ _); rw [arrV_size]; exact hin) rfl rfl hdg fun M' e1 z oq => ?_
          refine kk0 rfl rfl M' _ (jm_ast (t := 2) (j := i.toNatClampNeg) hW ht rfl rfl rfl (fun r' hr' => jm_pI_ob H r _ _ hr') (v := .int x.toInt8.toInt32) ?_ ?_ z oq) (jm_loc1 hlo hbase)
          · rw [jm_ar_i (by omega), jm_ar_i (by omega)]; exact jm_sI
          · rw [jm_ar_i (by omega)]; exact e1
        · split at h
          · next ht =>
            cases h
            obtain ⟨g1, g2⟩ := jm_arr (t := 3) hW ht.1 (by omega) hK
            have hbase := (hW.lt (r := r) (by omega)).2
            rw [jm_ar_i (by omega)] at g1
            refine W.zast hx hb g1 (g2 _ (fun j => .int (jm_I H r j))) (fun q => by cases q) (by show ¬ (i < 0 ∨ (arrV _ _ _).slots.size ≤ _); rw [arrV_size]; exact hin) rfl rfl hdg fun M' e1 z oq => ?_
            refine kk0 rfl rfl M' _ (jm_ast (t := 3) (j := i.toNatClampNeg) hW ht.1 rfl rfl rfl (fun r' hr' => jm_pI_ob H r _ x hr') (v := .int x) ?_ ?_ z oq) (jm_loc1 hlo hbase)
            · rw [jm_ar_i (by omega), jm_ar_i (by omega)]; exact jm_sI
            · rw [jm_ar_i (by omega)]
              rw [← (jm_b01 ht.2).1]
              exact e1
          · cases h
      · cases h
    · cases h
  · split at h
    · next x i r q =>
      split at h
      · next hr =>
        cases h
        have hin : ¬ (i < 0 ∨ jm_ln H r ≤ i.toNatClampNeg) := hr.2
        have hrt : jm_tg H r ≠ 0 := by rcases hr.1 with ⟨h1, -⟩ | ⟨h1, -⟩ <;> omega
        have hxt : jm_tg H x ≠ 0 := by rcases hr.1 with ⟨-, h1⟩ | ⟨-, h1⟩ <;> omega
        have hbase := (hW.lt hrt).2
        have hxr : x ≠ 0 := by
          have := (hW.2.2.2 x hxt).1
          exact Nat.ne_of_gt (Nat.lt_of_lt_of_le (by decide) this)
        have key : ∀ (t ci : Nat), ((t = 4 ∧ ci = 6) ∨ (t = 5 ∧ ci = 5)) → jm_tg H r = 100 + t → jm_tg H x = ci + 1 → W p l e R s m args below meth c M locs cells slots Q (F0 m pc A (List.map (jm_cv base b) (.ref x :: .int i :: .ref r :: st'))) := by
          intro t ci htc h1 h2
          have hci : ci < 13 := by omega
          have ht6 : t < 6 := by omega
          obtain ⟨g1, g2⟩ := jm_arr hW h1 ht6 hK
          rw [jm_ar_q (by omega)] at g1
          have hat := (hW.P (r := x) (by omega)).2.2
          rw [jm_ob_o h2 hci] at hat
          obtain ⟨rr, e1, cellV, q1, q2, q3, -⟩ := hat
          have hrr : rr = (jm_C ci, jm_T ci, jm_N ci) := Option.some.inj (e1.symm.trans (jm_cl_at hci))
          subst hrr
          have hcls := (hK.1.1 ci _ (jm_cl_at hci)).2
          obtain ⟨kA, comp, k1, k2, k3, -⟩ : va_RA s (dA t) (.object (jm_C ci)) := by
            have h3 := (hK.1.2 t _ (jm_tys_at ht6)).2
            rcases htc with ⟨rfl, rfl⟩ | ⟨rfl, rfl⟩ <;> exact h3
          have hcomp : comp = D.1 ci := Option.some.inj (k3.symm.trans hcls.1)
          subst hcomp
          obtain ⟨kC, hkC, -⟩ := hcls.2
          refine W.aast hx hb g1 (fun q h => by cases h) (fun h => by cases h) k1 k2 rfl hkC ⟨fun q => hin (Or.inl q), by show _ < (arrV _ _ _).slots.size; rw [arrV_size]; exact Nat.not_le.mp fun q => hin (Or.inr q)⟩ q1 (fun q h => by rw [q3] at h; cases h) (by rw [q2]; exact hkC) (by rw [q2]; exact va_assign hcls) rfl rfl hdg fun M' e1 z oq => ?_
          refine kk0 rfl rfl M' _ (jm_ast (t := t) (j := i.toNatClampNeg) hW h1 rfl rfl rfl (fun r' hr' => jm_pR_ob H r _ x hr') (v := .ref (jm_ad base b x)) ?_ ?_ z oq) (jm_loc1 hlo hbase)
          · rw [jm_ar_q (by omega), jm_ar_q (by omega)]; exact jm_sR hxr
          · rw [jm_ar_q (by omega)]; exact e1
        rcases hr.1 with ⟨h1, h2⟩ | ⟨h1, h2⟩
        · exact key 4 6 (Or.inl ⟨rfl, rfl⟩) h1 h2
        · exact key 5 5 (Or.inr ⟨rfl, rfl⟩) h1 h2
      · cases h
    · cases h
  · cases h
set_option maxHeartbeats 4000000 in
theorem jm_hq_s {ins : Instr} {st st' : List Value} {H' : jm_H} (C : jm_Cx D dA base b L xs H00 mi p s m args meth c) (hdg : decode (jm_b mi) pc = .ok (ins, jm_len ins)) (hxi : jm_xi mi (pc, ins) = true) (hW : jm_W0 D dA base b H00 M H) (hlo : ∀ q ∈ locs, base ≤ q.base)
    (h : jm_hq (some (L, xs)) ins (jm_rv mi ins) st H = some (st', H')) (hc : cells + (jm_n H' - jm_n H) ≤ R.cells) (hs : slots + (jm_s H' - jm_s H) ≤ R.slots)
    (kk : ∀ (M' : Heap) (locs' : List Loc), jm_W0 D dA base b H00 M' H' → (∀ q ∈ locs', base ≤ q.base) → W p l e R s m args below meth c M' locs' (cells + (jm_n H' - jm_n H)) (slots + (jm_s H' - jm_s H)) Q (F0 m (pc + jm_len ins) A (st'.map (jm_cv base b)))) :
    W p l e R s m args below meth c M locs cells slots Q (F0 m pc A (st.map (jm_cv base b))) := by
  unfold jm_hq at h
  split at h
  · next y hy =>
    cases h
    exact jm_hp_s C hdg hxi hW hlo hy hc hs kk
  · split at h
    · next i n q hno =>
      split at h
      · next h6 =>
        cases h
        have hm : jm_xm mi = true := C.2.2.2.2.2.2.2.2.2.1
        have hops := jm_plc jm_opx
        obtain ⟨hw, ps, hp⟩ := jm_link hm (ins := .anewarray i) rfl h6.1 (by decide)
        rw [jm_wd6 h6.1] at hw
        have e1 : ∀ t, jm_n (jm_mk H t n.toNatClampNeg n.toNatClampNeg) - jm_n H = 1 := fun t => by show jm_n H + 1 - jm_n H = 1; omega
        have e2 : ∀ t, jm_s (jm_mk H t n.toNatClampNeg n.toNatClampNeg) - jm_s H = n.toNatClampNeg := fun t => by show jm_s H + _ - jm_s H = _; omega
        rw [e1] at hc kk
        rw [e2] at hs kk
        rcases h6.2.2.2 with g | g
        · rw [if_pos g] at kk
          rw [g] at hw
          exact jm_newq_s (t := 4) (ci := 6) C hW (Or.inl ⟨rfl, rfl⟩) (hw _ List.mem_cons_self) (jm_tb_in (hops _ (List.mem_of_getElem? (i := 6) rfl)) rfl) h6.2.1 h6.2.2.1 hc hs hdg fun M' hW' => kk M' locs hW' hlo
        · rw [if_neg (by omega)] at kk
          rw [g] at hw
          exact jm_newq_s (t := 5) (ci := 5) C hW (Or.inr ⟨rfl, rfl⟩) (hw _ List.mem_cons_self) (jm_tb_in (hops _ (List.mem_of_getElem? (i := 7) rfl)) rfl) h6.2.1 h6.2.2.1 hc hs hdg fun M' hW' => kk M' locs hW' hlo
      · cases h
    · cases h
end JHS
end
section
theorem jm_xcb0 : ∀ j, j < 16 → jm_xc (0 + j) = true := fun j h => match j, h with
  | 0, _ => jm_okc0
  | 1, _ => jm_okc1
  | 2, _ => jm_okc2
  | 3, _ => jm_okc3
  | 4, _ => jm_okc4
  | 5, _ => jm_okc5
  | 6, _ => jm_okc6
  | 7, _ => jm_okc7
  | 8, _ => jm_okc8
  | 9, _ => jm_okc9
  | 10, _ => jm_okc10
  | 11, _ => jm_okc11
  | 12, _ => jm_okc12
  | 13, _ => jm_okc13
  | 14, _ => jm_okc14
  | 15, _ => jm_okc15
  | n + 16, h => absurd h (by omega)
theorem jm_xcb1 : ∀ j, j < 16 → jm_xc (16 + j) = true := fun j h => match j, h with
  | 0, _ => jm_okc16
  | 1, _ => jm_okc17
  | 2, _ => jm_okc18
  | 3, _ => jm_okc19
  | 4, _ => jm_okc20
  | 5, _ => jm_okc21
  | 6, _ => jm_okc22
  | 7, _ => jm_okc23
  | 8, _ => jm_okc24
  | 9, _ => jm_okc25
  | 10, _ => jm_okc26
  | 11, _ => jm_okc27
  | 12, _ => jm_okc28
  | 13, _ => jm_okc29
  | 14, _ => jm_okc30
  | 15, _ => jm_okc31
  | n + 16, h => absurd h (by omega)
theorem jm_xcb2 : ∀ j, j < 16 → jm_xc (32 + j) = true := fun j h => match j, h with
  | 0, _ => jm_okc32
  | 1, _ => jm_okc33
  | 2, _ => jm_okc34
  | 3, _ => jm_okc35
  | 4, _ => jm_okc36
  | 5, _ => jm_okc37
  | 6, _ => jm_okc38
  | 7, _ => jm_okc39
  | 8, _ => jm_okc40
  | 9, _ => jm_okc41
  | 10, _ => jm_okc42
  | 11, _ => jm_okc43
  | 12, _ => jm_okc44
  | 13, _ => jm_okc45
  | 14, _ => jm_okc46
  | 15, _ => jm_okc47
  | n + 16, h => absurd h (by omega)
theorem jm_xcb3 : ∀ j, j < 16 → jm_xc (48 + j) = true := fun j h => match j, h with
  | 0, _ => jm_okc48
  | 1, _ => jm_okc49
  | 2, _ => jm_okc50
  | 3, _ => jm_okc51
  | 4, _ => jm_okc52
  | 5, _ => jm_okc53
  | 6, _ => jm_okc54
  | 7, _ => jm_okc55
  | 8, _ => jm_okc56
  | 9, _ => jm_okc57
  | 10, _ => jm_okc58
  | 11, _ => jm_okc59
  | 12, _ => jm_okc60
  | 13, _ => jm_okc61
  | 14, _ => jm_okc62
  | 15, _ => jm_okc63
  | n + 16, h => absurd h (by omega)
theorem jm_xcb4 : ∀ j, j < 16 → jm_xc (64 + j) = true := fun j h => match j, h with
  | 0, _ => jm_okc64
  | 1, _ => jm_okc65
  | 2, _ => jm_okc66
  | 3, _ => jm_okc67
  | 4, _ => jm_okc68
  | 5, _ => jm_okc69
  | 6, _ => jm_okc70
  | 7, _ => jm_okc71
  | 8, _ => jm_okc72
  | 9, _ => jm_okc73
  | 10, _ => jm_okc74
  | 11, _ => jm_okc75
  | 12, _ => jm_okc76
  | 13, _ => jm_okc77
  | 14, _ => jm_okc78
  | 15, _ => jm_okc79
  | n + 16, h => absurd h (by omega)
theorem jm_xcb5 : ∀ j, j < 16 → jm_xc (80 + j) = true := fun j h => match j, h with
  | 0, _ => jm_okc80
  | 1, _ => jm_okc81
  | 2, _ => jm_okc82
  | 3, _ => jm_okc83
  | 4, _ => jm_okc84
  | 5, _ => jm_okc85
  | 6, _ => jm_okc86
  | 7, _ => jm_okc87
  | 8, _ => jm_okc88
  | 9, _ => jm_okc89
  | 10, _ => jm_okc90
  | 11, _ => jm_okc91
  | 12, _ => jm_okc92
  | 13, _ => jm_okc93
  | 14, _ => jm_okc94
  | 15, _ => jm_okc95
  | n + 16, h => absurd h (by omega)
theorem jm_xcb6 : ∀ j, j < 16 → jm_xc (96 + j) = true := fun j h => match j, h with
  | 0, _ => jm_okc96
  | 1, _ => jm_okc97
  | 2, _ => jm_okc98
  | 3, _ => jm_okc99
  | 4, _ => jm_okc100
  | 5, _ => jm_okc101
  | 6, _ => jm_okc102
  | 7, _ => jm_okc103
  | 8, _ => jm_okc104
  | 9, _ => jm_okc105
  | 10, _ => jm_okc106
  | 11, _ => jm_okc107
  | 12, _ => jm_okc108
  | 13, _ => jm_okc109
  | 14, _ => jm_okc110
  | 15, _ => jm_okc111
  | n + 16, h => absurd h (by omega)
theorem jm_xcb7 : ∀ j, j < 16 → jm_xc (112 + j) = true := fun j h => match j, h with
  | 0, _ => jm_okc112
  | 1, _ => jm_okc113
  | 2, _ => jm_okc114
  | 3, _ => jm_okc115
  | 4, _ => jm_okc116
  | 5, _ => jm_okc117
  | 6, _ => jm_okc118
  | 7, _ => jm_okc119
  | 8, _ => jm_okc120
  | 9, _ => jm_okc121
  | 10, _ => jm_okc122
  | 11, _ => jm_okc123
  | 12, _ => jm_okc124
  | 13, _ => jm_okc125
  | 14, _ => jm_okc126
  | 15, _ => jm_okc127
  | n + 16, h => absurd h (by omega)
theorem jm_xcb8 : ∀ j, j < 16 → jm_xc (128 + j) = true := fun j h => match j, h with
  | 0, _ => jm_okc128
  | 1, _ => jm_okc129
  | 2, _ => jm_okc130
  | 3, _ => jm_okc131
  | 4, _ => jm_okc132
  | 5, _ => jm_okc133
  | 6, _ => jm_okc134
  | 7, _ => jm_okc135
  | 8, _ => jm_okc136
  | 9, _ => jm_okc137
  | 10, _ => jm_okc138
  | 11, _ => jm_okc139
  | 12, _ => jm_okc140
  | 13, _ => jm_okc141
  | 14, _ => jm_okc142
  | 15, _ => jm_okc143
  | n + 16, h => absurd h (by omega)
theorem jm_xcb9 : ∀ j, j < 16 → jm_xc (144 + j) = true := fun j h => match j, h with
  | 0, _ => jm_okc144
  | 1, _ => jm_okc145
  | 2, _ => jm_okc146
  | 3, _ => jm_okc147
  | 4, _ => jm_okc148
  | 5, _ => jm_okc149
  | 6, _ => jm_okc150
  | 7, _ => jm_okc151
  | 8, _ => jm_okc152
  | 9, _ => jm_okc153
  | 10, _ => jm_okc154
  | 11, _ => jm_okc155
  | 12, _ => jm_okc156
  | 13, _ => jm_okc157
  | 14, _ => jm_okc158
  | 15, _ => jm_okc159
  | n + 16, h => absurd h (by omega)
theorem jm_xcb10 : ∀ j, j < 16 → jm_xc (160 + j) = true := fun j h => match j, h with
  | 0, _ => jm_okc160
  | 1, _ => jm_okc161
  | 2, _ => jm_okc162
  | 3, _ => jm_okc163
  | 4, _ => jm_okc164
  | 5, _ => jm_okc165
  | 6, _ => jm_okc166
  | 7, _ => jm_okc167
  | 8, _ => jm_okc168
  | 9, _ => jm_okc169
  | 10, _ => jm_okc170
  | 11, _ => jm_okc171
  | 12, _ => jm_okc172
  | 13, _ => jm_okc173
  | 14, _ => jm_okc174
  | 15, _ => jm_okc175
  | n + 16, h => absurd h (by omega)
theorem jm_xcb11 : ∀ j, j < 16 → jm_xc (176 + j) = true := fun j h => match j, h with
  | 0, _ => jm_okc176
  | 1, _ => jm_okc177
  | 2, _ => jm_okc178
  | 3, _ => jm_okc179
  | 4, _ => jm_okc180
  | 5, _ => jm_okc181
  | 6, _ => jm_okc182
  | 7, _ => jm_okc183
  | 8, _ => jm_okc184
  | 9, _ => jm_okc185
  | 10, _ => jm_okc186
  | 11, _ => jm_okc187
  | 12, _ => jm_okc188
  | 13, _ => jm_okc189
  | 14, _ => jm_okc190
  | 15, _ => jm_okc191
  | n + 16, h => absurd h (by omega)
theorem jm_xcb12 : ∀ j, j < 16 → jm_xc (192 + j) = true := fun j h => match j, h with
  | 0, _ => jm_okc192
  | 1, _ => jm_okc193
  | 2, _ => jm_okc194
  | 3, _ => jm_okc195
  | 4, _ => jm_okc196
  | 5, _ => jm_okc197
  | 6, _ => jm_okc198
  | 7, _ => jm_okc199
  | 8, _ => jm_okc200
  | 9, _ => jm_okc201
  | 10, _ => jm_okc202
  | 11, _ => jm_okc203
  | 12, _ => jm_okc204
  | 13, _ => jm_okc205
  | 14, _ => jm_okc206
  | 15, _ => jm_okc207
  | n + 16, h => absurd h (by omega)
theorem jm_xcb13 : ∀ j, j < 16 → jm_xc (208 + j) = true := fun j h => match j, h with
  | 0, _ => jm_okc208
  | 1, _ => jm_okc209
  | 2, _ => jm_okc210
  | 3, _ => jm_okc211
  | 4, _ => jm_okc212
  | 5, _ => jm_okc213
  | 6, _ => jm_okc214
  | 7, _ => jm_okc215
  | 8, _ => jm_okc216
  | 9, _ => jm_okc217
  | 10, _ => jm_okc218
  | 11, _ => jm_okc219
  | 12, _ => jm_okc220
  | 13, _ => jm_okc221
  | 14, _ => jm_okc222
  | 15, _ => jm_okc223
  | n + 16, h => absurd h (by omega)
theorem jm_xcb14 : ∀ j, j < 16 → jm_xc (224 + j) = true := fun j h => match j, h with
  | 0, _ => jm_okc224
  | 1, _ => jm_okc225
  | 2, _ => jm_okc226
  | 3, _ => jm_okc227
  | 4, _ => jm_okc228
  | 5, _ => jm_okc229
  | 6, _ => jm_okc230
  | 7, _ => jm_okc231
  | 8, _ => jm_okc232
  | 9, _ => jm_okc233
  | 10, _ => jm_okc234
  | 11, _ => jm_okc235
  | 12, _ => jm_okc236
  | 13, _ => jm_okc237
  | 14, _ => jm_okc238
  | 15, _ => jm_okc239
  | n + 16, h => absurd h (by omega)
theorem jm_xcb15 : ∀ j, j < 16 → jm_xc (240 + j) = true := fun j h => match j, h with
  | 0, _ => jm_okc240
  | 1, _ => jm_okc241
  | 2, _ => jm_okc242
  | 3, _ => jm_okc243
  | 4, _ => jm_okc244
  | 5, _ => jm_okc245
  | 6, _ => jm_okc246
  | 7, _ => jm_okc247
  | 8, _ => jm_okc248
  | 9, _ => jm_okc249
  | 10, _ => jm_okc250
  | 11, _ => jm_okc251
  | 12, _ => jm_okc252
  | 13, _ => jm_okc253
  | 14, _ => jm_okc254
  | 15, _ => jm_okc255
  | n + 16, h => absurd h (by omega)
theorem jm_div16 {mi : Nat} (h : mi < 256) : mi / 16 < 16 ∧ mi % 16 < 16 ∧ mi = 16 * (mi / 16) + mi % 16 := by omega
theorem jm_xca {mi : Nat} (h : mi < 256) : jm_xc mi = true := by
  obtain ⟨h1, h2, h3⟩ := jm_div16 h
  rw [h3]
  generalize mi / 16 = a at h1 ⊢
  generalize mi % 16 = d at h2 ⊢
  match a, h1 with
  | 0, _ => exact jm_xcb0 d h2
  | 1, _ => exact jm_xcb1 d h2
  | 2, _ => exact jm_xcb2 d h2
  | 3, _ => exact jm_xcb3 d h2
  | 4, _ => exact jm_xcb4 d h2
  | 5, _ => exact jm_xcb5 d h2
  | 6, _ => exact jm_xcb6 d h2
  | 7, _ => exact jm_xcb7 d h2
  | 8, _ => exact jm_xcb8 d h2
  | 9, _ => exact jm_xcb9 d h2
  | 10, _ => exact jm_xcb10 d h2
  | 11, _ => exact jm_xcb11 d h2
  | 12, _ => exact jm_xcb12 d h2
  | 13, _ => exact jm_xcb13 d h2
  | 14, _ => exact jm_xcb14 d h2
  | 15, _ => exact jm_xcb15 d h2
  | n + 16, h => exact absurd h (by omega)
theorem jm_xma {mi : Nat} (h : mi < 256) : jm_xm mi = true := by
  obtain ⟨h1, h2, h3⟩ := jm_div16 h
  rw [h3]
  generalize mi / 16 = a at h1 ⊢
  generalize mi % 16 = d at h2 ⊢
  match a, h1 with
  | 0, _ => exact List.all_eq_true.mp jm_okm0 d (List.mem_range.mpr h2)
  | 1, _ => exact List.all_eq_true.mp jm_okm1 d (List.mem_range.mpr h2)
  | 2, _ => exact List.all_eq_true.mp jm_okm2 d (List.mem_range.mpr h2)
  | 3, _ => exact List.all_eq_true.mp jm_okm3 d (List.mem_range.mpr h2)
  | 4, _ => exact List.all_eq_true.mp jm_okm4 d (List.mem_range.mpr h2)
  | 5, _ => exact List.all_eq_true.mp jm_okm5 d (List.mem_range.mpr h2)
  | 6, _ => exact List.all_eq_true.mp jm_okm6 d (List.mem_range.mpr h2)
  | 7, _ => exact List.all_eq_true.mp jm_okm7 d (List.mem_range.mpr h2)
  | 8, _ => exact List.all_eq_true.mp jm_okm8 d (List.mem_range.mpr h2)
  | 9, _ => exact List.all_eq_true.mp jm_okm9 d (List.mem_range.mpr h2)
  | 10, _ => exact List.all_eq_true.mp jm_okm10 d (List.mem_range.mpr h2)
  | 11, _ => exact List.all_eq_true.mp jm_okm11 d (List.mem_range.mpr h2)
  | 12, _ => exact List.all_eq_true.mp jm_okm12 d (List.mem_range.mpr h2)
  | 13, _ => exact List.all_eq_true.mp jm_okm13 d (List.mem_range.mpr h2)
  | 14, _ => exact List.all_eq_true.mp jm_okm14 d (List.mem_range.mpr h2)
  | 15, _ => exact List.all_eq_true.mp jm_okm15 d (List.mem_range.mpr h2)
  | n + 16, h => exact absurd h (by omega)
theorem jm_xpa {mi : Nat} (h : mi < 255) : jm_xp mi = true := by
  obtain ⟨h1, h2, h3⟩ := jm_div16 (mi := mi) (by omega)
  have h4 : 16 * (mi / 16) + mi % 16 < 255 := by omega
  rw [h3]
  generalize mi / 16 = a at h1 h4 ⊢
  generalize mi % 16 = d at h2 h4 ⊢
  match a, h1 with
  | 0, _ => exact List.all_eq_true.mp jm_okp0 d (List.mem_range.mpr h2)
  | 1, _ => exact List.all_eq_true.mp jm_okp1 d (List.mem_range.mpr h2)
  | 2, _ => exact List.all_eq_true.mp jm_okp2 d (List.mem_range.mpr h2)
  | 3, _ => exact List.all_eq_true.mp jm_okp3 d (List.mem_range.mpr h2)
  | 4, _ => exact List.all_eq_true.mp jm_okp4 d (List.mem_range.mpr h2)
  | 5, _ => exact List.all_eq_true.mp jm_okp5 d (List.mem_range.mpr h2)
  | 6, _ => exact List.all_eq_true.mp jm_okp6 d (List.mem_range.mpr h2)
  | 7, _ => exact List.all_eq_true.mp jm_okp7 d (List.mem_range.mpr h2)
  | 8, _ => exact List.all_eq_true.mp jm_okp8 d (List.mem_range.mpr h2)
  | 9, _ => exact List.all_eq_true.mp jm_okp9 d (List.mem_range.mpr h2)
  | 10, _ => exact List.all_eq_true.mp jm_okp10 d (List.mem_range.mpr h2)
  | 11, _ => exact List.all_eq_true.mp jm_okp11 d (List.mem_range.mpr h2)
  | 12, _ => exact List.all_eq_true.mp jm_okp12 d (List.mem_range.mpr h2)
  | 13, _ => exact List.all_eq_true.mp jm_okp13 d (List.mem_range.mpr h2)
  | 14, _ => exact List.all_eq_true.mp jm_okp14 d (List.mem_range.mpr h2)
  | 15, _ => exact List.all_eq_true.mp jm_okp15 d (List.mem_range.mpr (by omega))
  | n + 16, h => exact absurd h (by omega)
theorem jm_cix : (List.range 256).all (fun i => decide (jm_ci i < 18) && decide (1 ≤ jm_r0 i)) = true := by decide +kernel
theorem jm_ci18 {mi : Nat} (h : mi < 256) : jm_ci mi < 18 ∧ 1 ≤ jm_r0 mi := by
  have := List.all_eq_true.mp jm_cix mi (List.mem_range.mpr h)
  simpa using this
theorem jm_rk1 {mi : Nat} (h : mi < 256) (as : List Value) : 1 ≤ jm_rk mi as := by
  have := (jm_ci18 h).2
  unfold jm_rk
  split
  · exact this
  · split <;> omega
theorem jm_own_C {ci : Nat} (h : ci < 13) : jm_own.getD ci "" = jm_C ci := by
  match ci, h with
  | 0, _ => rfl
  | 1, _ => rfl
  | 2, _ => rfl
  | 3, _ => rfl
  | 4, _ => rfl
  | 5, _ => rfl
  | 6, _ => rfl
  | 7, _ => rfl
  | 8, _ => rfl
  | 9, _ => rfl
  | 10, _ => rfl
  | 11, _ => rfl
  | 12, _ => rfl
theorem jm_at_s {mi pc : Nat} {ins : Instr} (hm : mi < 256) (h : jm_at mi pc = some ins) : jm_xi mi (pc, ins) = true ∧ ∃ len, decode (jm_b mi) pc = .ok (ins, len) ∧ (jm_sw ins = false → len = jm_len ins) := by
  have h1 := List.all_eq_true.mp (jm_xca hm) _ (jm_lkp h)
  refine ⟨h1, ?_⟩
  unfold jm_xi at h1
  rw [Bool.and_eq_true] at h1
  have h2 := h1.1
  dsimp only at h2
  split at h2
  · next i' l e =>
    rw [Bool.and_eq_true, decide_eq_true_eq, Bool.or_eq_true, decide_eq_true_eq] at h2
    refine ⟨l, by rw [e, h2.1], fun q => ?_⟩
    rcases h2.2 with g | g
    · rw [q] at g; cases g
    · exact g
  · cases h2
def jm_wo (mi : Nat) : List Jvm.Cond := .code (jm_y mi) (jm_b mi) (jm_mx mi) (jm_ret mi) :: lw_tbl.filter goodWord
theorem jm_wo_good {mi : Nat} (h : mi < 255) : GoodIn jm_tb (jm_wo mi) := by
  intro w hw
  rcases List.mem_cons.mp hw with rfl | hw
  · have h1 := jm_xpa h
    unfold jm_xp at h1
    exact ⟨jm_tb_in (List.mem_of_getElem? (of_decide_eq_true h1)) rfl, good_of_word rfl⟩
  · obtain ⟨h1, h2⟩ := List.mem_filter.mp hw
    exact ⟨jm_tb_in h1 (by rw [h2]; rfl), good_of_word h2⟩
theorem jm_gf_n {a k r : Nat} {q st' : List Value} {H H' : jm_H} (h : jm_gf a k r q H = some (st', H')) : H' = H := (jm_gf_s h).1
set_option maxHeartbeats 2000000 in
theorem jm_hp_n {S : Option (Nat × (Nat → Int32))} {ins : Instr} {e : Nat × Nat × Nat × Int} {st st' : List Value} {H H' : jm_H} (h : jm_hp S ins e st H = some (st', H')) : jm_n H ≤ jm_n H' ∧ jm_s H ≤ jm_s H' := by
  unfold jm_hp at h
  split at h
  · split at h <;> cases h; exact ⟨Nat.le_refl _, Nat.le_refl _⟩
  · split at h <;> cases h; exact ⟨Nat.le_refl _, Nat.le_refl _⟩
  · split at h <;> cases h; exact ⟨Nat.le_refl _, Nat.le_refl _⟩
  · split at h
    · split at h
      · obtain rfl := jm_gf_n h; exact ⟨Nat.le_refl _, Nat.le_refl _⟩
      · cases h
    · cases h
  · split at h
    · unfold jm_pf at h
      split at h
      all_goals first | (split at h <;> cases h <;> exact ⟨Nat.le_refl _, Nat.le_refl _⟩) | cases h
    · cases h
  · split at h <;> cases h; exact ⟨Nat.le_succ _, Nat.le_add_right _ _⟩
  · split at h
    · split at h <;> cases h; exact ⟨Nat.le_succ _, Nat.le_add_right _ _⟩
    · cases h
  · split at h
    · split at h
      · split at h <;> cases h <;> exact ⟨Nat.le_succ _, Nat.le_add_right _ _⟩
      · cases h
    · cases h
  · split at h
    · split at h
      · split at h <;> cases h; exact ⟨Nat.le_refl _, Nat.le_refl _⟩
      · split at h <;> cases h; exact ⟨Nat.le_refl _, Nat.le_refl _⟩
    · cases h
  · split at h
    · split at h
      · split at h
        · split at h <;> cases h; exact ⟨Nat.le_refl _, Nat.le_refl _⟩
        · cases h
      · split at h <;> cases h; exact ⟨Nat.le_refl _, Nat.le_refl _⟩
    · cases h
  · split at h
    · split at h <;> cases h; exact ⟨Nat.le_refl _, Nat.le_refl _⟩
    · cases h
  · split at h
    · split at h <;> cases h; exact ⟨Nat.le_refl _, Nat.le_refl _⟩
    · cases h
  · split at h
    · split at h <;> cases h; exact ⟨Nat.le_refl _, Nat.le_refl _⟩
    · cases h
  · split at h
    · split at h <;> cases h; exact ⟨Nat.le_refl _, Nat.le_refl _⟩
    · cases h
  · split at h
    · split at h <;> cases h; exact ⟨Nat.le_refl _, Nat.le_refl _⟩
    · cases h
  · split at h
    · split at h
      · split at h
        · cases h; exact ⟨Nat.le_refl _, Nat.le_refl _⟩
        · split at h <;> cases h; exact ⟨Nat.le_refl _, Nat.le_refl _⟩
      · cases h
    · cases h
  · split at h
    · split at h <;> cases h; exact ⟨Nat.le_refl _, Nat.le_refl _⟩
    · cases h
  · cases h
theorem jm_hq_n {S : Option (Nat × (Nat → Int32))} {ins : Instr} {e : Nat × Nat × Nat × Int} {st st' : List Value} {H H' : jm_H} (h : jm_hq S ins e st H = some (st', H')) : jm_n H ≤ jm_n H' ∧ jm_s H ≤ jm_s H' := by
  unfold jm_hq at h
  split at h
  · next y hy => cases h; exact jm_hp_n hy
  · split at h
    · split at h <;> cases h
      exact ⟨Nat.le_succ _, Nat.le_add_right _ _⟩
    · cases h
theorem jm_cnt {S : Option (Nat × (Nat → Int32))} : ∀ (n D mi pc : Nat) (ls st : List Value) (H : jm_H) (r : Option Value) (H' : jm_H), jm_ev S n D mi pc ls st H = some (r, H') → jm_n H ≤ jm_n H' ∧ jm_s H ≤ jm_s H'
  | 0, D, mi, pc, ls, st, H, r, H', h => by cases h
  | n + 1, D, mi, pc, ls, st, H, r, H', h => by
    rw [jm_ev] at h
    split at h
    · cases h
    · split at h
      · split at h
        · cases h
        · exact jm_cnt n _ _ _ _ _ _ _ _ h
      · split at h
        · cases h
        · exact jm_cnt n _ _ _ _ _ _ _ _ h
      · split at h
        · cases h
        · exact jm_cnt n _ _ _ _ _ _ _ _ h
      · split at h
        · cases h
        · next x hx =>
          have h1 := jm_hq_n hx
          have h2 := jm_cnt n _ _ _ _ _ _ _ _ h
          exact ⟨Nat.le_trans h1.1 h2.1, Nat.le_trans h1.2 h2.2⟩
      · split at h <;> cases h
        exact ⟨Nat.le_refl _, Nat.le_refl _⟩
      · split at h
        · cases h
        · split at h
          · exact jm_cnt n _ _ _ _ _ _ _ _ h
          · split at h
            · split at h
              · cases h
              · next y hy =>
                have h1 := jm_cnt n _ _ _ _ _ _ y.1 y.2 hy
                have h2 := jm_cnt n _ _ _ _ _ _ _ _ h
                exact ⟨Nat.le_trans h1.1 h2.1, Nat.le_trans h1.2 h2.2⟩
            · cases h
theorem jm_cut_s {st as q : List Value} {k : Nat} (h : jm_cut st k = some (as, q)) : st = as.reverse ++ q ∧ as.length = k := by
  unfold jm_cut at h
  split at h
  · cases h
  · cases h
    refine ⟨by rw [List.reverse_reverse, List.take_append_drop], ?_⟩
    rw [List.length_reverse, List.length_take]
    omega
theorem jm_ofW {l : Launch} {y : MethodName} {ws ws' : List Jvm.Cond} {rm : Room} {Pc : Array Value → State → Prop} {Qc : Array Value → State → Outcome → State → Prop} {mc ms : Nat} {free : Addr → Prop} {cc : ByteArray} {maxL : Nat} {ret : Option FieldType}
    (hy : plainFor y = true) (hw : ws = Cond.code y cc maxL ret :: ws')
    (body : ∀ p e s m args below meth c s₁, BodyLoose p l y (headSpec ws rm) cc maxL ret e s m args below meth c s₁ → c.maxLocals = maxL → Pc args s →
      W p l e (headSpec ws rm).room s m args below meth c s.heap [] 0 0 (MQ below Qc args s mc ms free) (entryFrame m args maxL)) : Met l y ws rm Pc Qc mc ms free := by
  refine MetFree.of_bodySF (code := cc) (maxLocals := maxL) (ret := ret) hy ?_ ?_
  · intro args s m h hn
    obtain ⟨meth, c, h1, h2, h3, h4, h5, h6, -, -⟩ := Cond.code_spec hn (atoms_spec (ws := ws) h _ (by rw [hw]; exact List.mem_cons_self))
    exact ⟨meth, c, h1, h2, h3, h4, h5, h6⟩
  · intro p e s m args below meth c s₁ B hml hP _
    have hh0 : s₁.heap = s.heap := by rw [B.state]; rfl
    obtain ⟨t, a1, o, b1, b2, b3⟩ := body p e s m args below meth c s₁ B hml hP s₁ hh0 (Stand.of_body B)
    exact ⟨t, o, a1, b1, b2, ⟨b3.1, b3.2⟩⟩
section JSO
variable {l : Launch} {base b L : Nat} {xs : Nat → Int32} {H00 : Heap} {D : va_G} {dA : Nat → ClassId}
/-- the answer and the heap behind a method -/
def jm_Q (D : va_G) (dA : Nat → ClassId) (base b : Nat) (H00 : Heap) (r : Option Value) (H' : jm_H) : Array Value → State → Outcome → State → Prop := fun _ _ o t => o = .returned (r.map (jm_cv base b)) ∧ jm_W0 D dA base b H00 t.heap H'
def jm_P (D : va_G) (dA : Nat → ClassId) (base b L : Nat) (xs : Nat → Int32) (H00 : Heap) (as : List Value) (H : jm_H) : Array Value → State → Prop := va_Pc (as.map (jm_cv base b)) (fun U => jm_W0 D dA base b H00 U.heap H ∧ jm_K D dA b L xs H00 U)
/-- 'the interpreter comes to r, H'' is the machine's: from every frame of the method that stands for it -/
def jm_Go (l : Launch) (D : va_G) (dA : Nat → ClassId) (base b L : Nat) (xs : Nat → Int32) (H00 : Heap) (Dp mi pc : Nat) (ls st : List Value) (H : jm_H) (r : Option Value) (H' : jm_H) : Prop :=
  ∀ (p : Program) (e : Env) (R : Room) (s : State) (m : MethodId) (args : Array Value) (below : List Frame) (meth : Method) (c : Code) (M : Heap) (locs : List Loc) (cells slots : Nat) (A : Array Slot),
    jm_Cx D dA base b L xs H00 mi p s m args meth c → jm_W0 D dA base b H00 M H → jm_lr base b ls A (jm_mx mi) → (∀ q ∈ locs, base ≤ q.base) → Dp ≤ R.frames → Dp * 60 ≤ R.locals → cells + (jm_n H' - jm_n H) ≤ R.cells → slots + (jm_s H' - jm_s H) ≤ R.slots →
    W p l e R s m args below meth c M locs cells slots (MQ below (jm_Q D dA base b H00 r H') args s (cells + (jm_n H' - jm_n H)) (slots + (jm_s H' - jm_s H)) (fun q => base ≤ q)) (F0 m pc A (st.map (jm_cv base b)))
theorem jm_xm_all {mi : Nat} (h : jm_xm mi = true) : (jm_y mi).cls = jm_own.getD (jm_ci mi) "" ∧ ((jm_y mi).cls ≠ "java/lang/invoke/MethodHandle" ∧ (jm_y mi).cls ≠ "java/lang/invoke/VarHandle") ∧ (parseMethodDescriptor (jm_y mi).desc).map (fun d => d.parameters.length) = some (jm_np mi) ∧ plainFor (jm_y mi) = true ∧ jm_mx mi ≤ 22 := by
  unfold jm_xm at h
  simp only [Bool.and_eq_true, decide_eq_true_eq] at h
  exact ⟨h.1.1.1.1, h.1.1.1.2, h.1.1.2, h.1.2, h.2⟩
set_option maxHeartbeats 1000000 in
/-- a method's contract, out of a run of the interpreter from its entry -/
theorem jm_met {mj Dp : Nat} {as : List Value} {H H' : jm_H} {r : Option Value} (hm : mj < 255) (hb : b < base) (hs0 : H00.size = base) (hen : (as.flatMap (fun v => if jm_v2 v then [v, .null] else [v])).length ≤ jm_mx mj) (hgo : jm_Go l D dA base b L xs H00 Dp mj 0 (jm_en mj as) [] H r H') :
    Met l (jm_y mj) (jm_wo mj) ({ frames := Dp, cells := jm_n H' - jm_n H, slots := jm_s H' - jm_s H, locals := Dp * 60 }) (jm_P D dA base b L xs H00 as H) (jm_Q D dA base b H00 r H') (jm_n H' - jm_n H) (jm_s H' - jm_s H) (fun q => base ≤ q) := by
  have hxm := jm_xma (mi := mj) (by omega)
  refine jm_ofW (cc := jm_b mj) (maxL := jm_mx mj) (ret := jm_ret mj) (jm_xm_all hxm).2.2.2.1 rfl ?_
  intro p e s m args below meth c s₁ B hml hv
  obtain ⟨rfl, hW, hK⟩ := hv
  have hts0 := atoms_spec (ws := jm_wo mj) B.pre
  have hts : ∀ w ∈ jm_tb, w.before (as.map (jm_cv base b)).toArray s = true := by
    intro w hw
    obtain ⟨hw, hg⟩ := jm_tb_of hw
    by_cases hg1 : goodWord w = true
    · exact hts0 w (List.mem_cons_of_mem _ (List.mem_filter.mpr ⟨hw, hg1⟩))
    · have hg2 : jm_gw w = true := by
        rcases Bool.or_eq_true_iff.mp hg with h | h
        · exact absurd h hg1
        · exact h
      have h1 := hK.2.2 w hw hg2
      unfold jm_gw at hg2
      split at hg2
      · exact va_Nw.use rfl h1
      · exact va_AO.use h1
      · cases hg2
  have hown : s.vm.findClass (jm_y mj).cls = some m.cls := findClass_of_methodNamed B.named
  rw [lg_entry_eq]
  have hlr := jm_lr_en (base := base) (b := b) (n := jm_mx mj) rfl hen
  have := hgo p e (headSpec (jm_wo mj) ({ frames := Dp, cells := jm_n H' - jm_n H, slots := jm_s H' - jm_s H, locals := Dp * 60 })).room s m _ below meth c s.heap [] 0 0 _ ⟨B.exec, B.bytes, B.returns, hml, hown, hts, B.notSynchronized, fun hn => (name_of_methodNamed B.named B.method).1.trans hn, hK, hxm, hb, hs0⟩ hW hlr (fun _ h => by cases h) (Nat.le_refl _) (Nat.le_refl _) (by show 0 + _ ≤ _; rw [Nat.zero_add]; exact Nat.le_refl _) (by show 0 + _ ≤ _; rw [Nat.zero_add]; exact Nat.le_refl _)
  rw [Nat.zero_add, Nat.zero_add] at this
  exact this
variable {p : Program} {e : Env} {R : Room} {s : State} {m : MethodId} {args : Array Value} {below : List Frame} {meth : Method} {c : Code} {M : Heap} {locs : List Loc} {cells slots : Nat} {Q : State → Prop}
theorem jm_run_W {mc ms pc : Nat} {A : Array Slot} {st0 rest : List Value} {v0 : Option Value} {PW : Heap → Prop} {free : Addr → Prop} (hr : va_Run p l e R s m args below meth c M locs cells slots mc ms (F0 m pc A st0) rest (fun _ o t => o = .returned v0 ∧ PW t.heap) free)
    (kk : ∀ (M1 : Heap) (L1 : List Loc), PW M1 → (∀ q ∈ L1, free q.base) → W p l e R s m args below meth c M1 (locs ++ L1) (cells + mc) (slots + ms) Q (F0 m (pc + 3) A (v0.toList ++ rest))) : W p l e R s m args below meth c M locs cells slots Q (F0 m pc A st0) := by
  intro T hT X
  obtain ⟨v, st₀, t, T', L1, h0, X', hL, e1, e2, ⟨hv, hp⟩, st⟩ := hr T hT X
  cases hv
  obtain ⟨t2, a1, b1⟩ := kk T'.heap L1 (by rw [e1]; exact hp) hL T' rfl X'
  exact ⟨t2, st t2 a1, b1⟩
theorem jm_blind {as : List Value} {H : jm_H} : FrameBlind (jm_P D dA base b L xs H00 as H) := fun a U g mk h => ⟨h.1, h.2.1, h.2.2.blind g mk a⟩
theorem jm_pre {as : List Value} {H : jm_H} (hW : jm_W0 D dA base b H00 M H) (hK : jm_K D dA b L xs H00 s) : ∀ U : State, U.heap = M → s.WarmedH U.vm → jm_P D dA base b L xs H00 as H (as.map (jm_cv base b)).toArray U := fun U hU hW' => ⟨rfl, by rw [hU]; exact hW, hK.moved hW'⟩
end JSO
end
section
section JSM
variable {l : Launch} {base b L : Nat} {xs : Nat → Int32} {H00 : Heap} {D : va_G} {dA : Nat → ClassId}
variable {p : Program} {e : Env} {R : Room} {s : State} {m : MethodId} {args : Array Value} {below : List Frame} {meth : Method} {c : Code} {M : Heap} {locs : List Loc} {cells slots : Nat} {Q : State → Prop}
theorem jm_wd1 {own : String} {idx : Nat} {e : Nat × Nat × Nat × Int} (h : e.1 = 1) : jm_wd own idx e = [.methodLink own idx (jm_y e.2.1), .static (jm_y e.2.1), .initialized (jm_y e.2.1).cls] := by unfold jm_wd; rw [h]; rfl
theorem jm_wd2 {own : String} {idx : Nat} {e : Nat × Nat × Nat × Int} (h : e.1 = 2) : jm_wd own idx e = [.methodLink own idx (jm_y e.2.1), .instanceMethod (jm_y e.2.1), .selects (jm_y e.2.1).cls (jm_y e.2.1) (jm_y e.2.1), .initialized (jm_y e.2.1).cls] := by unfold jm_wd; rw [h]; rfl
theorem jm_wd3 {own : String} {idx : Nat} {e : Nat × Nat × Nat × Int} (h : e.1 = 3) : jm_wd own idx e = [.methodLink own idx (jm_y e.2.1), .instanceMethod (jm_y e.2.1), .initialized (jm_y e.2.1).cls] := by unfold jm_wd; rw [h]; rfl
theorem jm_wd4 {own : String} {idx : Nat} {e : Nat × Nat × Nat × Int} (h : e.1 = 4) : jm_wd own idx e = [.methodLinkNest own idx (jm_y e.2.1) "TaperedNumbers", .instanceMethod (jm_y e.2.1), .initialized (jm_y e.2.1).cls] := by unfold jm_wd; rw [h]; rfl
theorem jm_wd5 {own : String} {idx : Nat} {e : Nat × Nat × Nat × Int} (h : e.1 = 5) : jm_wd own idx e = [.methodLink own idx Lib.objectInit] := by unfold jm_wd; rw [h]; rfl
theorem jm_xk1 {ci idx : Nat} {e : Nat × Nat × Nat × Int} {ps : List Nat} (h : jm_xk ci (idx, e, ps) = true) (h0 : e.1 = 1 ∨ e.1 = 2) : e.2.1 < 255 := by
  unfold jm_xk at h
  rw [Bool.and_eq_true] at h
  have h2 := h.2
  dsimp only at h2
  rcases h0 with h0 | h0 <;> rw [h0] at h2 <;> simpa using h2
theorem jm_xk3 {ci idx : Nat} {e : Nat × Nat × Nat × Int} {ps : List Nat} (h : jm_xk ci (idx, e, ps) = true) (h0 : e.1 = 3 ∨ e.1 = 4) : e.2.1 < 255 ∧ (jm_y e.2.1).name = "<init>" ∧ jm_ret e.2.1 = none := by
  unfold jm_xk at h
  rw [Bool.and_eq_true] at h
  have h2 := h.2
  dsimp only at h2
  rcases h0 with h0 | h0 <;> rw [h0] at h2 <;> simp only [Bool.and_eq_true, decide_eq_true_eq] at h2 <;> exact ⟨h2.1.1, h2.1.2, h2.2⟩
theorem jm_in1 {w x y : Jvm.Cond} {q : List Jvm.Cond} {T : List Jvm.Cond} (h : ∀ v ∈ (w :: x :: y :: q), v ∈ T) : w ∈ T ∧ x ∈ T ∧ y ∈ T := ⟨h _ List.mem_cons_self, h _ (List.mem_cons_of_mem _ List.mem_cons_self), h _ (List.mem_cons_of_mem _ (List.mem_cons_of_mem _ List.mem_cons_self))⟩
theorem jm_en_len {mj : Nat} {as : List Value} {A : Array Slot} {n : Nat} : (as.flatMap (fun v => if jm_v2 v then [v, .null] else [v])).length ≤ (jm_en mj as).length := by
  unfold jm_en
  simp
set_option maxHeartbeats 4000000 in
/-- a call of one of the program's own methods -/
theorem jm_call_s {mi pc Dp : Nat} {ins : Instr} {st q as : List Value} {A : Array Slot} {H H' : jm_H} {r : Option Value} (C : jm_Cx D dA base b L xs H00 mi p s m args meth c) (hdg : decode (jm_b mi) pc = .ok (ins, 3)) (hW : jm_W0 D dA base b H00 M H)
    (hA : A.size = jm_mx mi) (hcl : jm_cl ins (jm_rv mi ins) st H = some (some as, q)) (hen : (as.flatMap (fun v => if jm_v2 v then [v, .null] else [v])).length ≤ jm_mx (jm_rv mi ins).2.1)
    (hrk : jm_rk (jm_rv mi ins).2.1 as < Dp) (hgo : jm_Go l D dA base b L xs H00 (jm_rk (jm_rv mi ins).2.1 as) (jm_rv mi ins).2.1 0 (jm_en (jm_rv mi ins).2.1 as) [] H r H')
    (hf : Dp ≤ R.frames) (hl : Dp * 60 ≤ R.locals) (hc : cells + (jm_n H' - jm_n H) ≤ R.cells) (hs : slots + (jm_s H' - jm_s H) ≤ R.slots) (hlo : ∀ q ∈ locs, base ≤ q.base)
    (kk : ∀ (M' : Heap) (locs' : List Loc), jm_W0 D dA base b H00 M' H' → (∀ q ∈ locs', base ≤ q.base) → W p l e R s m args below meth c M' locs' (cells + (jm_n H' - jm_n H)) (slots + (jm_s H' - jm_s H)) Q (F0 m (pc + 3) A ((r.toList ++ q).map (jm_cv base b)))) :
    W p l e R s m args below meth c M locs cells slots Q (F0 m pc A (st.map (jm_cv base b))) := by
  obtain ⟨hx, hb, hr, hml, hown, hts, hlk, hin, hK, hm, hbb, hs0⟩ := C
  have key : ∀ (mj : Nat), mj = (jm_rv mi ins).2.1 → mj < 255 → ∃ rm : Room, rm.cells = jm_n H' - jm_n H ∧ rm.slots = jm_s H' - jm_s H ∧ rm.frames + 1 ≤ R.frames ∧ 8 + (jm_mx mj + 11) + rm.locals ≤ R.locals ∧ Met l (jm_y mj) (jm_wo mj) rm (jm_P D dA base b L xs H00 as H) (jm_Q D dA base b H00 r H') (jm_n H' - jm_n H) (jm_s H' - jm_s H) (fun q => base ≤ q) := by
    intro mj e1 hmj
    subst e1
    have hmx := (jm_xm_all (jm_xma (mi := (jm_rv mi ins).2.1) (by omega))).2.2.2.2
    refine ⟨_, rfl, rfl, ?_, ?_, jm_met hmj hbb hs0 hen hgo⟩
    · show jm_rk _ as + 1 ≤ _; omega
    · show _ + jm_rk _ as * 60 ≤ _
      have : (jm_rk (jm_rv mi ins).2.1 as + 1) * 60 ≤ Dp * 60 := Nat.mul_le_mul_right _ hrk
      omega
  have fin : ∀ (M1 : Heap) (L1 : List Loc), jm_W0 D dA base b H00 M1 H' → (∀ q ∈ L1, base ≤ q.base) → W p l e R s m args below meth c M1 (locs ++ L1) (cells + (jm_n H' - jm_n H)) (slots + (jm_s H' - jm_s H)) Q (F0 m (pc + 3) A ((r.map (jm_cv base b)).toList ++ q.map (jm_cv base b))) := by
    intro M1 L1 h1 h2
    have := kk M1 (locs ++ L1) h1 (fun z hz => (List.mem_append.mp hz).elim (hlo z) (h2 z))
    rw [List.map_append] at this
    cases r <;> exact this
  unfold jm_cl at hcl
  split at hcl
  · next i =>
    split at hcl
    · next h1 =>
      obtain ⟨hw, ps, hp⟩ := jm_link hm (ins := .invokestatic i) rfl h1 (by decide)
      rw [jm_wd1 h1] at hw
      obtain ⟨w1, w2, w3⟩ := jm_in1 hw
      have hmj := jm_xk1 hp (Or.inl h1)
      split at hcl
      · next as' q' hcut =>
        split at hcl
        · next h8 =>
          cases hcl
          obtain ⟨rm, r1, r2, r3, r4, hM⟩ := key _ rfl hmj
          obtain ⟨g1, g2⟩ := jm_cut_s hcut
          have hxm := jm_xm_all (jm_xma (mi := (jm_rv mi (.invokestatic i)).2.1) (by omega))
          have cw := callB_of (R := R) (own := (jm_y mi).cls) (index := i) (jm_np (jm_rv mi (.invokestatic i)).2.1) hts (jm_wo_good hmj) rfl r1 r2 (hts _ w3) (hts _ w1) ⟨hxm.2.1.1, hxm.2.1.2, hxm.2.2.1⟩ ⟨r3, r4⟩
          refine jm_run_W (v0 := r.map (jm_cv base b)) (PW := fun h => jm_W0 D dA base b H00 h H') (va_runS (As := as.map (jm_cv base b)) (rest := q.map (jm_cv base b)) ⟨hx, hb, hml, hown, hts⟩ hM ⟨cw, hts _ w2⟩ ⟨jm_blind, jm_pre hW hK⟩ rfl (by rw [List.length_map]; exact g2) hA (by rw [g1]; simp) (by show 2 * 0 + _ ≤ 8; rw [jm_cs_cv]; omega) hdg ⟨hc, hs⟩) fin
        · cases hcl
      · cases hcl
    · cases hcl
  · next i =>
    split at hcl
    · next h1 =>
      obtain ⟨hw, ps, hp⟩ := jm_link hm (ins := .invokevirtual i) rfl h1 (by decide)
      rw [jm_wd2 h1] at hw
      obtain ⟨w1, w2, w3⟩ := jm_in1 hw
      have w4 := hw _ (List.mem_cons_of_mem _ (List.mem_cons_of_mem _ (List.mem_cons_of_mem _ List.mem_cons_self)))
      have hmj := jm_xk1 hp (Or.inr h1)
      split at hcl
      · next rr as' q' hcut =>
        split at hcl
        · next h8 =>
          cases hcl
          obtain ⟨rm, r1, r2, r3, r4, hM⟩ := key _ rfl hmj
          obtain ⟨g1, g2⟩ := jm_cut_s hcut
          have hxm := jm_xm_all (jm_xma (mi := (jm_rv mi (.invokevirtual i)).2.1) (by omega))
          have hci := (jm_ci18 (mi := (jm_rv mi (.invokevirtual i)).2.1) (by omega)).1
          have ht := h8.2
          have hwf := hW.2.2.2 rr (by omega)
          have hc13 : jm_ci (jm_rv mi (.invokevirtual i)).2.1 < 13 := by omega
          have hat := (hW.P (r := rr) (by omega)).2.2
          rw [jm_ob_o ht hc13] at hat
          obtain ⟨rq, e1, cell, q1, q2, q3, -⟩ := hat
          have hrq : rq = (jm_C _, jm_T _, jm_N _) := Option.some.inj (e1.symm.trans (jm_cl_at hc13))
          subst hrq
          have hfc := (hK.1.1 _ _ (jm_cl_at hc13)).2.1
          have hCn : (jm_y (jm_rv mi (.invokevirtual i)).2.1).cls = jm_C (jm_ci (jm_rv mi (.invokevirtual i)).2.1) := hxm.1.trans (jm_own_C hc13)
          have cw := callB_of (R := R) (own := (jm_y mi).cls) (index := i) (jm_np (jm_rv mi (.invokevirtual i)).2.1) hts (jm_wo_good hmj) rfl r1 r2 (hts _ w4) (hts _ w1) ⟨hxm.2.1.1, hxm.2.1.2, hxm.2.2.1⟩ ⟨r3, r4⟩
          refine jm_run_W (v0 := r.map (jm_cv base b)) (PW := fun h => jm_W0 D dA base b H00 h H') (va_runV (As := as'.map (jm_cv base b)) (b := jm_ad base b rr) (rest := q.map (jm_cv base b)) ⟨hx, hb, hml, hown, hts⟩ hM ⟨cw, hts _ w2, hts _ w3⟩ ⟨jm_blind, ⟨cell, q1, by rw [q3]; rfl, by rw [hCn, q2]; exact hfc⟩, jm_pre hW hK⟩ rfl (by rw [List.length_map]; simpa using g2) hA (by rw [g1]; simp [jm_cv]) (by show 2 * 0 + _ ≤ 8; rw [jm_cs_cv]; omega) hdg ⟨hc, hs⟩) fin
        · cases hcl
      · cases hcl
    · cases hcl
  · next i =>
    split at hcl
    · split at hcl
      · split at hcl <;> cases hcl
      · cases hcl
    · split at hcl
      · next h1 =>
        split at hcl
        · next rr as' q' hcut =>
          split at hcl
          · next h8 =>
            cases hcl
            obtain ⟨g1, g2⟩ := jm_cut_s hcut
            obtain ⟨hw, ps, hp⟩ := jm_link hm (ins := .invokespecial i) (k := (jm_rv mi (.invokespecial i)).1) rfl rfl (by omega)
            obtain ⟨hmj, hn1, hn2⟩ := jm_xk3 hp h1
            obtain ⟨rm, r1, r2, r3, r4, hM⟩ := key _ rfl hmj
            have hxm := jm_xm_all (jm_xma (mi := (jm_rv mi (.invokespecial i)).2.1) (by omega))
            have hwo : jm_wo (jm_rv mi (.invokespecial i)).2.1 = .code (jm_y (jm_rv mi (.invokespecial i)).2.1) (jm_b (jm_rv mi (.invokespecial i)).2.1) (jm_mx (jm_rv mi (.invokespecial i)).2.1) none :: lw_tbl.filter goodWord := by rw [← hn2]; rfl
            rcases h1 with h1 | h1
            · rw [jm_wd3 h1] at hw
              obtain ⟨w1, w2, w3⟩ := jm_in1 hw
              have cw := callB_of (R := R) (own := (jm_y mi).cls) (index := i) (jm_np (jm_rv mi (.invokespecial i)).2.1) hts (jm_wo_good hmj) hwo r1 r2 (hts _ w3) (hts _ w1) ⟨hxm.2.1.1, hxm.2.1.2, hxm.2.2.1⟩ ⟨r3, r4⟩
              refine jm_run_W (v0 := r.map (jm_cv base b)) (PW := fun h => jm_W0 D dA base b H00 h H') (va_runI (As := as'.map (jm_cv base b)) (b := jm_ad base b rr) (rest := q.map (jm_cv base b)) ⟨hx, hb, hml, hown, hts⟩ hM ⟨cw, hn1, hts _ w2⟩ ⟨jm_blind, jm_pre hW hK⟩ rfl (by rw [List.length_map]; simpa using g2) hA (by rw [g1]; simp [jm_cv]) (by show 2 * 0 + _ ≤ 8; rw [jm_cs_cv]; omega) hdg ⟨hc, hs⟩) fin
            · rw [jm_wd4 h1] at hw
              obtain ⟨w1, w2, w3⟩ := jm_in1 hw
              have cw := va_cnB (R := R) (own := (jm_y mi).cls) (index := i) (host := "TaperedNumbers") (jm_np (jm_rv mi (.invokespecial i)).2.1) hts (jm_wo_good hmj) hwo r1 r2 (hK.2.2 _ (jm_tb_of w1).1 rfl) (hts _ w3) ⟨hxm.2.1.1, hxm.2.1.2, hxm.2.2.1⟩ ⟨r3, r4⟩
              refine jm_run_W (v0 := r.map (jm_cv base b)) (PW := fun h => jm_W0 D dA base b H00 h H') (va_runIN (As := as'.map (jm_cv base b)) (b := jm_ad base b rr) (rest := q.map (jm_cv base b)) ⟨hx, hb, hml, hown, hts⟩ hM ⟨cw, hn1, hts _ w2⟩ ⟨jm_blind, jm_pre hW hK⟩ rfl (by rw [List.length_map]; simpa using g2) hA (by rw [g1]; simp [jm_cv]) (by show 2 * 0 + _ ≤ 8; rw [jm_cs_cv]; omega) hdg ⟨hc, hs⟩) fin
          · cases hcl
        · cases hcl
      · cases hcl
  · cases hcl
theorem jm_rt_s {ret : Option FieldType} {ins : Instr} {st : List Value} {r : Option Value} (h : jm_rt ret ins st = some r) : (ins = .return_ ∧ ret = none ∧ st = [] ∧ r = none) ∨ (∃ t v, ins = .ireturn ∧ ret = some t ∧ st = [.int v] ∧ narrow t (.int v) = .int v ∧ r = some (.int v)) ∨ (∃ v, ins = .lreturn ∧ ret = some .long ∧ st = [.long v] ∧ r = some (.long v)) := by
  unfold jm_rt at h
  split at h
  · cases h; exact Or.inl ⟨rfl, rfl, rfl, rfl⟩
  · split at h
    · next hn => cases h; exact Or.inr (Or.inl ⟨_, _, rfl, rfl, rfl, hn, rfl⟩)
    · cases h
  · cases h; exact Or.inr (Or.inr ⟨_, rfl, rfl, rfl, rfl⟩)
  · cases h
theorem jm_kd_sw {ins : Instr} (h : jm_kd ins ≠ 2) : jm_sw ins = false := by
  cases ins <;> first | rfl | exact absurd rfl h
theorem jm_kd3 {ins : Instr} (h : jm_kd ins = 2) (h2 : jm_sw ins = false) : jm_len ins = 3 := by
  cases ins <;> first | rfl | (cases h; done) | cases h2
theorem jm_cl_kd {ins : Instr} {e : Nat × Nat × Nat × Int} {st : List Value} {H : jm_H} {x : Option (List Value) × List Value} (h : jm_cl ins e st H = some x) : jm_len ins = 3 ∧ jm_sw ins = false := by
  cases ins <;> first | exact ⟨rfl, rfl⟩ | cases h
theorem jm_cl_none {ins : Instr} {e : Nat × Nat × Nat × Int} {st q : List Value} {H : jm_H} (h : jm_cl ins e st H = some (none, q)) : ∃ i r, ins = .invokespecial i ∧ e.1 = 5 ∧ st = .ref r :: q ∧ jm_cs q ≤ 8 := by
  unfold jm_cl at h
  split at h
  · split at h
    · split at h
      · split at h <;> cases h
      · cases h
    · cases h
  · split at h
    · split at h
      · split at h <;> cases h
      · cases h
    · cases h
  · split at h
    · next h5 =>
      split at h
      · split at h
        · next h8 => cases h; exact ⟨_, _, rfl, h5, rfl, h8⟩
        · cases h
      · cases h
    · split at h
      · split at h
        · split at h <;> cases h
        · cases h
      · cases h
  · cases h
theorem jm_cl_mj {mi : Nat} {ins : Instr} {st q as : List Value} {H : jm_H} (hm : jm_xm mi = true) (h : jm_cl ins (jm_rv mi ins) st H = some (some as, q)) : (jm_rv mi ins).2.1 < 255 := by
  unfold jm_cl at h
  split at h
  · next i =>
    split at h
    · next h1 =>
      obtain ⟨hw, ps, hp⟩ := jm_link hm (ins := .invokestatic i) rfl h1 (by decide)
      exact jm_xk1 hp (Or.inl h1)
    · cases h
  · next i =>
    split at h
    · next h1 =>
      obtain ⟨hw, ps, hp⟩ := jm_link hm (ins := .invokevirtual i) rfl h1 (by decide)
      exact jm_xk1 hp (Or.inr h1)
    · cases h
  · next i =>
    split at h
    · split at h
      · split at h <;> cases h
      · cases h
    · split at h
      · next h1 =>
        obtain ⟨hw, ps, hp⟩ := jm_link hm (ins := .invokespecial i) (k := (jm_rv mi (.invokespecial i)).1) rfl rfl (by omega)
        exact (jm_xk3 hp h1).1
      · cases h
  · cases h
end JSM
section JMM
variable {l : Launch} {base b L : Nat} {xs : Nat → Int32} {H00 : Heap} {D : va_G} {dA : Nat → ClassId}
theorem jm_en_le {mj : Nat} {as : List Value} (h : (jm_en mj as).length = jm_mx mj) : (as.flatMap (fun v => if jm_v2 v then [v, .null] else [v])).length ≤ jm_mx mj := by
  unfold jm_en at h
  simp only [List.length_append, List.length_replicate] at h
  omega
set_option maxHeartbeats 8000000 in
/-- what the interpreter comes to, the machine comes to -/
theorem jm_sound : ∀ (n Dp mi pc : Nat) (ls st : List Value) (H : jm_H) (r : Option Value) (H' : jm_H), jm_ev (some (L, xs)) n Dp mi pc ls st H = some (r, H') → mi < 256 → 1 ≤ Dp → jm_Go l D dA base b L xs H00 Dp mi pc ls st H r H'
  | 0, Dp, mi, pc, ls, st, H, r, H', h, _, _ => by cases h
  | n + 1, Dp, mi, pc, ls, st, H, r, H', h, hmi, hD => by
    intro p e R s m args below meth c M locs cells slots A C hW hlr hlo hf hl hc hs
    have hx := C.1
    have hb := C.2.1
    rw [jm_ev] at h
    split at h
    · cases h
    · next ins hat =>
      obtain ⟨hxi, len, hdg0, hlen⟩ := jm_at_s hmi hat
      split at h
      · next hk =>
        split at h
        · cases h
        · next st' hst =>
          have hdg : decode (jm_b mi) pc = .ok (ins, jm_len ins) := by rw [hdg0, hlen (jm_kd_sw (by rw [hk]; decide))]
          exact jm_alu_s hx hb hdg hst (jm_sound n _ _ _ _ _ _ _ _ h hmi hD p e R s m args below meth c M locs cells slots A C hW hlr hlo hf hl hc hs)
      · next hk =>
        split at h
        · cases h
        · next y hst =>
          have hdg : decode (jm_b mi) pc = .ok (ins, jm_len ins) := by rw [hdg0, hlen (jm_kd_sw (by rw [hk]; decide))]
          exact jm_loc_s hx hb hdg hlr (ls' := y.1) (st' := y.2) hst fun A' h' => jm_sound n _ _ _ _ _ _ _ _ h hmi hD p e R s m args below meth c M locs cells slots A' C hW h' hlo hf hl hc hs
      · next hk =>
        split at h
        · cases h
        · next y hst =>
          exact jm_br_s hx hb hdg0 (fun q => by rw [hlen q]; exact jm_kd3 hk q) (pc' := y.1) (st' := y.2) hst (jm_sound n _ _ _ _ _ _ _ _ h hmi hD p e R s m args below meth c M locs cells slots A C hW hlr hlo hf hl hc hs)
      · next hk =>
        split at h
        · cases h
        · next y hst =>
          have hdg : decode (jm_b mi) pc = .ok (ins, jm_len ins) := by rw [hdg0, hlen (jm_kd_sw (by rw [hk]; decide))]
          have c1 := jm_hq_n (st' := y.1) (H' := y.2) hst
          have c2 := jm_cnt n _ _ _ _ _ _ _ _ h
          refine jm_hq_s C hdg hxi hW hlo (st' := y.1) (H' := y.2) hst (by omega) (by omega) fun M' locs' hW' hlo' => ?_
          have := jm_sound n _ _ _ _ _ _ _ _ h hmi hD p e R s m args below meth c M' locs' (cells + (jm_n y.2 - jm_n H)) (slots + (jm_s y.2 - jm_s H)) A C hW' hlr hlo' hf hl (by omega) (by omega)
          rw [show cells + (jm_n y.2 - jm_n H) + (jm_n H' - jm_n y.2) = cells + (jm_n H' - jm_n H) by omega, show slots + (jm_s y.2 - jm_s H) + (jm_s H' - jm_s y.2) = slots + (jm_s H' - jm_s H) by omega] at this
          exact this
      · next hk =>
        split at h
        · cases h
        · next r' hrt =>
          cases h
          have hdg : decode (jm_b mi) pc = .ok (ins, jm_len ins) := by rw [hdg0, hlen (jm_kd_sw (by rw [hk]; decide))]
          have hr := C.2.2.1
          have hlk : meth.locks = false := C.2.2.2.2.2.2.1
          rw [Nat.sub_self, Nat.sub_self]
          rcases jm_rt_s hrt with ⟨rfl, e2, rfl, rfl⟩ | ⟨t, v, rfl, e2, rfl, hn, rfl⟩ | ⟨v, rfl, e2, rfl, rfl⟩
          · exact W.vret hx hb (hr.trans e2) (fun t ht _ => ⟨rfl, by rw [ht]; exact hW⟩) hlo hdg hlk
          · exact W.zret hx hb (hr.trans e2) hn (fun t ht _ => ⟨rfl, by rw [ht]; exact hW⟩) hlo hdg hlk
          · exact W.lret hx hb (hr.trans e2) (fun t ht _ => ⟨rfl, by rw [ht]; exact hW⟩) hlo hdg hlk
      · split at h
        · cases h
        · next y hcl =>
          obtain ⟨g1, g2⟩ := jm_cl_kd hcl
          have hdg : decode (jm_b mi) pc = .ok (ins, 3) := by rw [hdg0, hlen g2, g1]
          split at h
          · next hno =>
            have k0 := jm_sound n _ _ _ _ _ _ _ _ h hmi hD p e R s m args below meth c M locs cells slots A C hW hlr hlo hf hl hc hs
            obtain ⟨y1, y2⟩ := y
            dsimp only at hno k0 h
            subst hno
            obtain ⟨i, rr, rfl, h5, rfl, h8⟩ := jm_cl_none hcl
            have hm : jm_xm mi = true := C.2.2.2.2.2.2.2.2.2.1
            have hts := C.2.2.2.2.2.1
            obtain ⟨hw, ps, hp⟩ := jm_link hm (ins := .invokespecial i) rfl h5 (by decide)
            rw [jm_wd5 h5] at hw
            have hops := jm_plc jm_opx
            refine W.objInit hx hb C.2.2.2.2.1 (hts _ (hw _ List.mem_cons_self)) (hts _ (jm_tb_in (hops _ (List.mem_of_getElem? (i := 1) rfl)) rfl)) (hts _ (jm_tb_in (hops _ (List.mem_of_getElem? (i := 0) rfl)) rfl)) rfl ?_ rfl hdg (by omega) ?_ k0
            · show A.size = _
              rw [hlr.2.1, C.2.2.2.1]
            · show 2 * 0 + _ + 12 ≤ _
              rw [jm_cs_cv]
              omega
          · next as has =>
            split at h
            · next hrk =>
              split at h
              · cases h
              · next z hz =>
                obtain ⟨y1, y2⟩ := y
                dsimp only at has h
                subst has
                have hmj : (jm_rv mi ins).2.1 < 256 := Nat.lt_of_lt_of_le (jm_cl_mj C.2.2.2.2.2.2.2.2.2.1 hcl) (by decide)
                have c1 := jm_cnt n _ _ _ _ _ _ z.1 z.2 hz
                have c2 := jm_cnt n _ _ _ _ _ _ _ _ h
                have hgo := jm_sound n _ _ _ _ _ _ z.1 z.2 hz hmj (jm_rk1 hmj as)
                refine jm_call_s C hdg hW (by rw [hlr.2.1]) hcl (jm_en_le hrk.2) hrk.1 hgo hf hl (by omega) (by omega) hlo fun M' locs' hW' hlo' => ?_
                have := jm_sound n _ _ _ _ _ _ _ _ h hmi hD p e R s m args below meth c M' locs' (cells + (jm_n z.2 - jm_n H)) (slots + (jm_s z.2 - jm_s H)) A C hW' hlr hlo' hf hl (by omega) (by omega)
                rw [show cells + (jm_n z.2 - jm_n H) + (jm_n H' - jm_n z.2) = cells + (jm_n H' - jm_n H) by omega, show slots + (jm_s z.2 - jm_s H) + (jm_s H' - jm_s z.2) = slots + (jm_s H' - jm_s H) by omega] at this
                exact this
            · cases h
end JMM
end
section
/-! THE CLAIM OUT OF ONE WALK OF THE LAW'S BODY. Your part is whole_start (and what it stands on); all else here is the same for every law, but numbers. -/
def R_law : String := "TaperedNumbersLaw"
def lw_P (b : Addr) (xs : List Int32) (args : Array Value) (s : State) : Prop := args = #[.ref b] ∧ s.IntsAt b xs ∧ xs.length ≤ 6 ∧ (Jvm.Cond.and given_1 narrow_1).before args s = true
def lw_Q (_ : Array Value) (s : State) (o : Outcome) (t : State) : Prop := o = .returned (some (.int 1)) ∧ Framed s o t [] 600000 7302249
def lw_Z (below : List Frame) (a : Array Value) (s : State) : State → Prop := fun t => ∃ o, t.status = .running ∧ Ended t below o ∧ lw_Q a s o t
/-- the law's own end, with 1 on the stack, nothing written that was there before, its room as the claim has it -/
theorem lw_ret {p : Program} {l : Launch} {e : Env} {s : State} {m : MethodId} {below : List Frame} {meth : Method} {c : Code} {b : Nat} (hx : p.tables.exec = Jvm.exec) (hb : c.code = code) (hr : meth.sig.returnType = ret) (hlocks : meth.locks = false) {pc : Nat} {H : Heap} {ls : Array Slot} (hdg : decode code pc = .ok (.ireturn, 1)) : W p l e room_1 s m #[Value.ref b] below meth c H [] 600000 7302249 (lw_Z below #[Value.ref b] s) (F0 m pc ls [.int 1]) := by
  intro T hT X
  obtain ⟨fs, hret, hrun, hended, hW, hframe⟩ := X.leave (v := some (.int 1)) (hlocks := hlocks) (fun h => by rw [hr] at h; cases h)
  have hmeth' : T.vm.method? m = some meth := X.method'
  refine ⟨T.setFrames fs, ?_, .returned (some (.int 1)), hrun, hended, rfl, ⟨_, rfl⟩, hW, hframe⟩
  jvm_step X.here [X.here.top, hx, hb, hdg, hmeth', hr, ret, narrow_b1]
  (try refine ⟨rfl, ?_⟩); (try refine ⟨rfl, ?_⟩)
  first | (intro acts; rw [hret _ acts rfl rfl rfl]) | rw [hret _ _ rfl rfl rfl]
  exact Steps.refl _
/-- what holds at the law's entry: the machine, the code, the tables' words (any of lw_tbl by 'hts w (by decide +kernel)'), the script of L ints xs at the cell b, what the Statement gives of the start (any of its parts by flat_of_before) -/
def lw_At (p : Program) (s : State) (m : MethodId) (meth : Method) (c : Code) (b L : Nat) (xs : Nat → Int32) : Prop :=
  p.tables.exec = Jvm.exec ∧ c.code = code ∧ meth.sig.returnType = ret ∧ c.maxLocals = 4 ∧ s.vm.findClass R_law = some m.cls ∧ (∀ w ∈ lw_tbl, w.before #[Value.ref b] s = true) ∧ va_X b L xs s s.heap ∧ b < s.heap.size ∧ meth.locks = false ∧ (Jvm.Cond.and given_1 narrow_1).before #[Value.ref b] s = true
end
section
/-! the law's start: the tables' words give classes and slots; the heap is empty; the interpreter's run of the law is the machine's -/
def jm_H0 : jm_H := ((0, 0), fun _ => 0, fun _ => 0, fun _ _ => 0, fun _ _ => 0, fun _ _ => 0)
theorem jm_ins_in {ci : Nat} (h : ci < 13) : Cond.instantiable (jm_C ci) (jm_N ci) ∈ lw_tbl := by
  have hl : jm_xl ci = true := by
    match ci, h with
    | 0, _ => exact jm_okl0
    | 1, _ => exact jm_okl1
    | 2, _ => exact jm_okl2
    | 3, _ => exact jm_okl3
    | 4, _ => exact jm_okl4
    | 5, _ => exact jm_okl5
    | 6, _ => exact jm_okl6
    | 7, _ => exact jm_okl7
    | 8, _ => exact jm_okl8
    | 9, _ => exact jm_okl9
    | 10, _ => exact jm_okl10
    | 11, _ => exact jm_okl11
    | 12, _ => exact jm_okl12
  unfold jm_xl at hl
  simp only [Bool.and_eq_true, decide_eq_true_eq] at hl
  exact List.mem_of_getElem? hl.2
theorem jm_cl_lt {c : Nat} {q : vw_C} (h : jm_cl0[c]? = some q) : c < 13 := (List.getElem?_eq_some_iff.mp h).1
theorem jm_arrs {args : Array Value} {s : State} (hts : ∀ w ∈ lw_tbl, w.before args s = true) : ∀ t, ∃ cA : ClassId, t < 6 → ArrOfT s cA (jm_aty t) ∧ va_RA s cA (jm_aty t) := by
  have hops := jm_plc jm_opx
  have prim : ∀ ty : FieldType, Cond.arrayClass ty ∈ lw_tbl → ∃ cA : ClassId, ArrOfT s cA ty ∧ s.vm.findClass ("[" ++ ty.toString) = some cA := by
    intro ty h
    obtain ⟨c, k, comp, h1, h2, h3⟩ := Cond.arrayClass_spec (hts _ h)
    exact ⟨c, fun n z => ⟨fun k h => (by cases h), k, h2, comp, h3⟩, h1⟩
  have obj : ∀ C : String, Cond.arrayOver (.object C) ∈ lw_tbl → ∃ cA : ClassId, ArrOfT s cA (.object C) ∧ va_RA s cA (.object C) := by
    intro C h
    obtain ⟨comp, c, k, h1, h2, h3, h4, h5⟩ := Cond.arrayOver_spec (hts _ h)
    exact ⟨c, fun n z => ⟨fun k h => (by cases h), k, h3, comp, h4⟩, k, comp, h3, h4, h1, h5⟩
  intro t
  by_cases ht : t < 6
  · match t, ht with
    | 0, _ => obtain ⟨c, h1, h2⟩ := prim .int (hops _ (List.mem_of_getElem? (i := 2) rfl)); exact ⟨c, fun _ => ⟨h1, h2⟩⟩
    | 1, _ => obtain ⟨c, h1, h2⟩ := prim .long (hops _ (List.mem_of_getElem? (i := 3) rfl)); exact ⟨c, fun _ => ⟨h1, h2⟩⟩
    | 2, _ => obtain ⟨c, h1, h2⟩ := prim .byte (hops _ (List.mem_of_getElem? (i := 4) rfl)); exact ⟨c, fun _ => ⟨h1, h2⟩⟩
    | 3, _ => obtain ⟨c, h1, h2⟩ := prim .boolean (hops _ (List.mem_of_getElem? (i := 5) rfl)); exact ⟨c, fun _ => ⟨h1, h2⟩⟩
    | 4, _ => obtain ⟨c, h1, h2⟩ := obj _ (hops _ (List.mem_of_getElem? (i := 6) rfl)); exact ⟨c, fun _ => ⟨h1, h2⟩⟩
    | 5, _ => obtain ⟨c, h1, h2⟩ := obj _ (hops _ (List.mem_of_getElem? (i := 7) rfl)); exact ⟨c, fun _ => ⟨h1, h2⟩⟩
  · exact ⟨0, fun h => absurd h ht⟩
theorem jm_forget {s t : State} {o : Outcome} {L : List Loc} {k n k' n' : Nat} (h : FrameEnd s o t L k n) (hL : ∀ q ∈ L, s.heap.size ≤ q.base) (hk : k ≤ k') (hn : n ≤ n') : Framed s o t [] k' n' := by
  obtain ⟨h1, h2, h3⟩ := h
  refine ⟨h1, h2, ?_⟩
  obtain ⟨a1, a2, a3, a4, a5, a6⟩ := h3
  refine ⟨a1, a2, Nat.le_trans a3 (by omega), a4, Nat.le_trans a5 hn, fun a c hc => ?_⟩
  obtain ⟨c', b1, b2, b3, b4⟩ := a6 a c hc
  refine ⟨c', b1, b2, b3, fun i _ => b4 i (fun q => ?_)⟩
  have := hL _ q
  have h4 := (Array.getElem?_eq_some_iff.mp hc).1
  exact Nat.not_le.mpr h4 this
theorem jm_whole {p : Program} {e : Env} {s : State} {m : MethodId} {below : List Frame} {meth : Method} {c : Code} (l : Launch) {b L : Nat} {xs : Nat → Int32} (C0 : lw_At p s m meth c b L xs) {n : Nat} {H' : jm_H}
    (hrun : jm_ev (some (L, xs)) n 49 255 0 (jm_en 255 [.ref 1]) [] jm_H0 = some (some (.int 1), H')) (hn : jm_n H' ≤ 600000) (hs : jm_s H' ≤ 7302249) :
    W p l e room_1 s m #[Value.ref b] below meth c s.heap [] 0 0 (lw_Z below #[Value.ref b] s) (entryFrame m ([Value.ref b] : List Value).toArray (jm_mx 255)) := by
  obtain ⟨hx, hb, hr, hml, hown, hts, hX, hbl, hlk, hgv⟩ := C0
  have hk : ∀ ci, ∃ (cC : ClassId) (iS : Nat → Nat), ci < 13 → u_Kn s (jm_C ci) (jm_T ci) (jm_N ci) cC iS := by
    intro ci
    by_cases h : ci < 13
    · obtain ⟨cC, iS, h1⟩ := u_known (C := jm_C ci) (T := jm_T ci) (N := jm_N ci) (n := jm_N ci) hts (fun w hw => (jm_tb_of (jm_lay_in h w hw)).1) (hts _ (jm_ins_in h))
      exact ⟨cC, iS, fun _ => h1⟩
    · exact ⟨0, fun _ => 0, fun q => absurd q h⟩
  have ha := jm_arrs hts
  let D : va_G := (fun ci => Classical.choose (hk ci), fun ci => Classical.choose (Classical.choose_spec (hk ci)))
  let dA : Nat → ClassId := fun t => Classical.choose (ha t)
  have hD : ∀ ci, ci < 13 → u_Kn s (jm_C ci) (jm_T ci) (jm_N ci) (D.1 ci) (D.2 ci) := fun ci h => Classical.choose_spec (Classical.choose_spec (hk ci)) h
  have hA : ∀ t, t < 6 → ArrOfT s (dA t) (jm_aty t) ∧ va_RA s (dA t) (jm_aty t) := fun t h => Classical.choose_spec (ha t) h
  have hK : jm_K D dA b L xs s.heap s := by
    refine ⟨⟨fun ci q hq => ?_, fun k q hq => ?_⟩, hX, fun w hw hg => ?_⟩
    · have h13 := jm_cl_lt hq
      have hq2 := jm_cl_at h13
      rw [hq] at hq2
      cases hq2
      exact hD ci h13
    · have h6 : k < 6 := (List.getElem?_eq_some_iff.mp hq).1
      have hq2 := jm_tys_at (dA := dA) h6
      rw [hq] at hq2
      cases hq2
      exact hA k h6
    · have h1 := hts w hw
      unfold jm_gw at hg
      split at hg
      · exact va_Nw.of rfl h1
      · exact va_AO.of h1
      · cases hg
  have hgo := jm_sound (l := l) (D := D) (dA := dA) (base := s.heap.size) (b := b) (H00 := s.heap) n 49 255 0 _ [] jm_H0 (some (.int 1)) H' hrun (by decide) (by decide)
  have hlr := jm_lr_en (base := s.heap.size) (b := b) (n := jm_mx 255) (mi := 255) (as := [.ref 1]) rfl (by decide +kernel)
  have hcv : ([Value.ref 1] : List Value).map (jm_cv s.heap.size b) = [Value.ref b] := rfl
  rw [hcv] at hlr
  have hw := hgo p e room_1 s m #[Value.ref b] below meth c s.heap [] 0 0 _ ⟨hx, hb, hr, hml, hown, fun w hw => hts w (jm_tb_of hw).1, hlk, fun hn => absurd hn (by decide +kernel), hK, jm_xma (by decide), hbl, rfl⟩
    ⟨rfl, fun k hk => absurd hk (Nat.not_lt_zero _), fun _ _ => rfl, fun r hr => absurd rfl hr⟩ hlr (fun _ h => by cases h) (by decide) (by decide) (by show 0 + (jm_n H' - 0) ≤ 600000; omega) (by show 0 + (jm_s H' - 0) ≤ 7302249; omega)
  rw [lg_entry_eq]
  intro T hT X
  obtain ⟨t, a1, o, b1, b2, b3, L', b4, b5⟩ := hw T hT X
  refine ⟨t, a1, o, b1, b2, b3.1, ?_⟩
  exact jm_forget b4 b5 (by show 0 + (jm_n H' - 0) ≤ 600000; omega) (by show 0 + (jm_s H' - 0) ≤ 7302249; omega)
end
section
/-! what a run comes to, as equations: jm_w .. Q: from here the interpreter comes to an answer and a heap of which Q holds -/
def jm_w (S : Option (Nat × (Nat → Int32))) (D mi pc : Nat) (ls st : List Value) (H : jm_H) (Q : Option Value → jm_H → Prop) : Prop := ∃ (n : Nat) (r : Option Value) (H' : jm_H), jm_ev S n D mi pc ls st H = some (r, H') ∧ Q r H'
/-- a call: a method from its entry -/
def jm_c (S : Option (Nat × (Nat → Int32))) (mi : Nat) (as : List Value) (H : jm_H) (Q : Option Value → jm_H → Prop) : Prop := jm_w S (jm_rk mi as) mi 0 (jm_en mi as) [] H Q
theorem jm_hp_mono {S S' : Option (Nat × (Nat → Int32))} (hS : S = none ∨ S = S') {ins : Instr} {e : Nat × Nat × Nat × Int} {st : List Value} {H : jm_H} {y : List Value × jm_H} (h : jm_hp S ins e st H = some y) : jm_hp S' ins e st H = some y := by
  rcases hS with rfl | rfl
  · cases ins
    case iaload =>
      unfold jm_hp at h ⊢
      dsimp only at h ⊢
      split at h
      · split at h
        · cases h
        · next hr => rw [if_neg hr]; exact h
      · cases h
    case arraylength =>
      unfold jm_hp at h ⊢
      dsimp only at h ⊢
      split at h
      · split at h
        · cases h
        · next hr => rw [if_neg hr]; exact h
      · cases h
    all_goals exact h
  · exact h
theorem jm_hq_of {S : Option (Nat × (Nat → Int32))} {ins : Instr} {e : Nat × Nat × Nat × Int} {st : List Value} {H : jm_H} {y : List Value × jm_H} (h : jm_hp S ins e st H = some y) : jm_hq S ins e st H = some y := by
  unfold jm_hq
  rw [h]
theorem jm_hq_mono {S S' : Option (Nat × (Nat → Int32))} (hS : S = none ∨ S = S') {ins : Instr} {e : Nat × Nat × Nat × Int} {st : List Value} {H : jm_H} {y : List Value × jm_H} (h : jm_hq S ins e st H = some y) : jm_hq S' ins e st H = some y := by
  by_cases hn : jm_hp S ins e st H = none
  · have h0 := h
    unfold jm_hq at h
    rw [hn] at h
    dsimp only at h
    split at h
    · next i n q =>
      have : jm_hp S' (.anewarray i) e (.int n :: q) H = none := hn
      unfold jm_hq
      rw [this]
      exact h
    · cases h
  · cases hp : jm_hp S ins e st H with
    | none => exact absurd hp hn
    | some z =>
      have h1 := jm_hq_of hp
      rw [h] at h1
      cases h1
      exact jm_hq_of (jm_hp_mono hS hp)
set_option maxHeartbeats 2000000 in
theorem jm_mono {S S' : Option (Nat × (Nat → Int32))} (hS : S = none ∨ S = S') : ∀ (n n' D mi pc : Nat) (ls st : List Value) (H : jm_H) (x : Option Value × jm_H), n ≤ n' → jm_ev S n D mi pc ls st H = some x → jm_ev S' n' D mi pc ls st H = some x
  | 0, n', D, mi, pc, ls, st, H, x, _, h => by cases h
  | n + 1, 0, D, mi, pc, ls, st, H, x, hn, h => absurd hn (by omega)
  | n + 1, n' + 1, D, mi, pc, ls, st, H, x, hn, h => by
    have hn' : n ≤ n' := by omega
    rw [jm_ev] at h ⊢
    split at h
    · cases h
    · next ins hat =>
      try rw [hat]
      try dsimp only
      split at h
      · next hk =>
        split at h
        · cases h
        · next st' hst => (try rw [hst]); exact jm_mono hS n n' _ _ _ _ _ _ _ hn' h
      · next hk =>
        split at h
        · cases h
        · next st' hst => (try rw [hst]); exact jm_mono hS n n' _ _ _ _ _ _ _ hn' h
      · next hk =>
        split at h
        · cases h
        · next st' hst => (try rw [hst]); exact jm_mono hS n n' _ _ _ _ _ _ _ hn' h
      · next hk =>
        split at h
        · cases h
        · next st' hst => (try rw [jm_hq_mono hS hst]); exact jm_mono hS n n' _ _ _ _ _ _ _ hn' h
      · next hk =>
        split at h
        · cases h
        · next r hr => (try rw [hr]); exact h
      · split at h
        · cases h
        · next y hcl =>
          try rw [hcl]
          try dsimp only
          split at h
          · next hno => (try rw [hno]); exact jm_mono hS n n' _ _ _ _ _ _ _ hn' h
          · next as has =>
            try rw [has]
            try dsimp only
            split at h
            · next hrk =>
              try rw [if_pos hrk]
              split at h
              · cases h
              · next z hz =>
                rw [jm_mono hS n n' _ _ _ _ _ _ _ hn' hz]
                exact jm_mono hS n n' _ _ _ _ _ _ _ hn' h
            · cases h
section JWP
variable {S : Option (Nat × (Nat → Int32))} {D mi pc : Nat} {ls st : List Value} {H : jm_H} {Q : Option Value → jm_H → Prop}
theorem jm_w_mono {Q' : Option Value → jm_H → Prop} (h : jm_w S D mi pc ls st H Q) (hq : ∀ r H', Q r H' → Q' r H') : jm_w S D mi pc ls st H Q' := by
  obtain ⟨n, r, H', h1, h2⟩ := h
  exact ⟨n, r, H', h1, hq r H' h2⟩
theorem jm_w_none (h : jm_w none D mi pc ls st H Q) : jm_w S D mi pc ls st H Q := by
  obtain ⟨n, r, H', h1, h2⟩ := h
  exact ⟨n, r, H', jm_mono (Or.inl rfl) n n _ _ _ _ _ _ _ (Nat.le_refl _) h1, h2⟩
theorem js_step {pc' : Nat} {ls' st' : List Value} {H' : jm_H} (h : ∀ n, jm_ev S (n + 1) D mi pc ls st H = jm_ev S n D mi pc' ls' st' H') : jm_w S D mi pc ls st H Q = jm_w S D mi pc' ls' st' H' Q := by
  refine propext ⟨fun ⟨n, r, G, h1, h2⟩ => ?_, fun ⟨n, r, G, h1, h2⟩ => ⟨n + 1, r, G, by rw [h]; exact h1, h2⟩⟩
  match n, h1 with
  | 0, h1 => cases h1
  | n + 1, h1 => exact ⟨n, r, G, by rw [← h]; exact h1, h2⟩
theorem js0 {ins : Instr} {pc' : Nat} {st' : List Value} (hat : jm_at mi pc = some ins) (hk : jm_kd ins = 0) (hs : jm_alu ins st = some st') (hn : pc + jm_len ins = pc') : jm_w S D mi pc ls st H Q = jm_w S D mi pc' ls st' H Q :=
  js_step fun n => by simp only [jm_ev, hat, hk, hs, hn]
theorem js1 {ins : Instr} {pc' : Nat} {ls' st' : List Value} (hat : jm_at mi pc = some ins) (hk : jm_kd ins = 1) (hs : jm_loc ins ls st = some (ls', st')) (hn : pc + jm_len ins = pc') : jm_w S D mi pc ls st H Q = jm_w S D mi pc' ls' st' H Q :=
  js_step fun n => by simp only [jm_ev, hat, hk, hs, hn]
theorem js2 {ins : Instr} {pc' : Nat} {st' : List Value} (hat : jm_at mi pc = some ins) (hk : jm_kd ins = 2) (hs : jm_br ins pc st = some (pc', st')) : jm_w S D mi pc ls st H Q = jm_w S D mi pc' ls st' H Q :=
  js_step fun n => by simp only [jm_ev, hat, hk, hs]
theorem jsif {ins : Instr} {t f : Nat} {st' : List Value} {P : Prop} [Decidable P] (hat : jm_at mi pc = some ins) (hk : jm_kd ins = 2) (hs : jm_br ins pc st = some (cond (decide P) t f, st')) : jm_w S D mi pc ls st H Q = if P then jm_w S D mi t ls st' H Q else jm_w S D mi f ls st' H Q := by
  rw [js2 hat hk hs]
  by_cases h : P
  · rw [if_pos h, decide_eq_true h]; rfl
  · rw [if_neg h, decide_eq_false h]; rfl
theorem js3 {ins : Instr} {e : Nat × Nat × Nat × Int} {pc' : Nat} {st' : List Value} {H' : jm_H} (hat : jm_at mi pc = some ins) (hk : jm_kd ins = 3) (hrv : jm_rv mi ins = e) (hs : jm_hp S ins e st H = some (st', H')) (hn : pc + jm_len ins = pc') : jm_w S D mi pc ls st H Q = jm_w S D mi pc' ls st' H' Q :=
  js_step fun n => by simp only [jm_ev, hat, hk, hrv, jm_hq_of hs, hn]
theorem js4 {ins : Instr} {r : Option Value} {t : Option FieldType} (hat : jm_at mi pc = some ins) (hk : jm_kd ins = 4) (ht : jm_ret mi = t) (hs : jm_rt t ins st = some r) : jm_w S D mi pc ls st H Q = Q r H := by
  refine propext ⟨fun ⟨n, r', G, h1, h2⟩ => ?_, fun h => ⟨1, r, H, by simp only [jm_ev, hat, hk, ht, hs], h⟩⟩
  match n, h1 with
  | 0, h1 => cases h1
  | n + 1, h1 =>
    simp only [jm_ev, hat, hk, ht, hs] at h1
    cases h1
    exact h2
theorem jsret_i {v : Int32} (hat : jm_at mi pc = some .ireturn) (ht : jm_ret mi = some .int) : jm_w S D mi pc ls [.int v] H Q = Q (some (.int v)) H := js4 hat rfl ht (by show (if narrow .int (.int v) = .int v then _ else _) = _; exact if_pos rfl)
theorem jsret_z {v : Int32} (hat : jm_at mi pc = some .ireturn) (ht : jm_ret mi = some .boolean) (hv : v = 0 ∨ v = 1) : jm_w S D mi pc ls [.int v] H Q = Q (some (.int v)) H := js4 hat rfl ht (by show (if narrow .boolean (.int v) = .int v then _ else _) = _; rw [if_pos (jm_b01 hv).1])
theorem jsret_l {v : Int64} (hat : jm_at mi pc = some .lreturn) (ht : jm_ret mi = some .long) : jm_w S D mi pc ls [.long v] H Q = Q (some (.long v)) H := js4 hat rfl ht rfl
theorem jsret_v (hat : jm_at mi pc = some .return_) (ht : jm_ret mi = none) : jm_w S D mi pc ls [] H Q = Q none H := js4 hat rfl ht rfl
theorem jscall {ins : Instr} {e : Nat × Nat × Nat × Int} {as q : List Value} {pc' mj : Nat} (hat : jm_at mi pc = some ins) (hk : jm_kd ins = 5) (hrv : jm_rv mi ins = e) (hcl : jm_cl ins e st H = some (some as, q)) (hmj : e.2.1 = mj) (hrk : jm_rk mj as < D) (hen : (jm_en mj as).length = jm_mx mj) (hn : pc + 3 = pc') :
    jm_w S D mi pc ls st H Q = jm_c S mj as H (fun r H' => jm_w S D mi pc' ls (r.toList ++ q) H' Q) := by
  subst hmj
  subst hn
  refine propext ⟨fun ⟨n, r, G, h1, h2⟩ => ?_, fun ⟨n, r, G, h1, n2, r2, G2, h2, h3⟩ => ?_⟩
  · match n, h1 with
    | 0, h1 => cases h1
    | n + 1, h1 =>
      simp only [jm_ev, hat, hk, hrv, hcl, if_pos (And.intro hrk hen)] at h1
      split at h1
      · cases h1
      · next y hy => exact ⟨n, y.1, y.2, hy, n, r, G, h1, h2⟩
  · refine ⟨max n n2 + 1, r2, G2, ?_, h3⟩
    simp only [jm_ev, hat, hk, hrv, hcl, if_pos (And.intro hrk hen)]
    rw [jm_mono (S := S) (Or.inr rfl) n (max n n2) _ _ _ _ _ _ _ (Nat.le_max_left _ _) h1]
    exact jm_mono (Or.inr rfl) n2 (max n n2) _ _ _ _ _ _ _ (Nat.le_max_right _ _) h2
theorem jscut {k : Nat} {as q : List Value} (h : jm_cut st k = some (as, q)) {e : Nat × Nat × Nat × Int} {i : Nat} (h1 : e.1 = 1) (hk : jm_np e.2.1 = k) (h8 : jm_cs q ≤ 8) : jm_cl (.invokestatic i) e st H = some (some as, q) := by
  unfold jm_cl
  try dsimp only
  rw [if_pos h1, hk, h]
  try dsimp only
  rw [if_pos h8]
theorem jscutV {k r ci : Nat} {as q : List Value} (h : jm_cut st k = some (.ref r :: as, q)) {e : Nat × Nat × Nat × Int} {i : Nat} (h1 : e.1 = 2) (hk : jm_np e.2.1 + 1 = k) (h8 : jm_cs q ≤ 8) (hci : jm_ci e.2.1 = ci) (ht : jm_tg H r = ci + 1) : jm_cl (.invokevirtual i) e st H = some (some (.ref r :: as), q) := by
  unfold jm_cl
  try dsimp only
  rw [if_pos h1, hk, h]
  try dsimp only
  rw [if_pos ⟨h8, by rw [hci]; exact ht⟩]
/-! reads and writes of fields and arrays -/
theorem jsgI {i a b r pc' : Nat} {q : List Value} (hat : jm_at mi pc = some (.getfield i)) (hrv : jm_rv mi (.getfield i) = (0, a, b, 0)) (hf : jm_ft a b = 0 ∨ jm_ft a b = 3) (ht : jm_tg H r = a + 1) (hn : pc + 3 = pc') : jm_w S D mi pc ls (.ref r :: q) H Q = jm_w S D mi pc' ls (.int (jm_I H r b) :: q) H Q :=
  js3 hat rfl hrv (by show (if (0 : Nat) = 0 ∧ jm_tg H r = a + 1 then _ else _) = _; rw [if_pos ⟨rfl, ht⟩]; unfold jm_gf; rcases hf with h | h <;> simp only [h]) hn
theorem jsgL {i a b r pc' : Nat} {q : List Value} (hat : jm_at mi pc = some (.getfield i)) (hrv : jm_rv mi (.getfield i) = (0, a, b, 0)) (hf : jm_ft a b = 1) (ht : jm_tg H r = a + 1) (hn : pc + 3 = pc') : jm_w S D mi pc ls (.ref r :: q) H Q = jm_w S D mi pc' ls (.long (jm_L H r b) :: q) H Q :=
  js3 hat rfl hrv (by show (if (0 : Nat) = 0 ∧ jm_tg H r = a + 1 then _ else _) = _; rw [if_pos ⟨rfl, ht⟩]; unfold jm_gf; simp only [hf]) hn
theorem jsgR {i a b r pc' : Nat} {q : List Value} (hat : jm_at mi pc = some (.getfield i)) (hrv : jm_rv mi (.getfield i) = (0, a, b, 0)) (hf : jm_ft a b = 2) (ht : jm_tg H r = a + 1) (h0 : ¬ jm_R H r b = 0) (hn : pc + 3 = pc') : jm_w S D mi pc ls (.ref r :: q) H Q = jm_w S D mi pc' ls (.ref (jm_R H r b) :: q) H Q :=
  js3 hat rfl hrv (by show (if (0 : Nat) = 0 ∧ jm_tg H r = a + 1 then _ else _) = _; rw [if_pos ⟨rfl, ht⟩]; unfold jm_gf; simp only [hf, if_neg h0]) hn
theorem jspI {i a b r pc' : Nat} {x : Int32} {q : List Value} (hat : jm_at mi pc = some (.putfield i)) (hrv : jm_rv mi (.putfield i) = (0, a, b, 0)) (hf : jm_ft a b = 0) (ht : jm_tg H r = a + 1) (hn : pc + 3 = pc') : jm_w S D mi pc ls (.int x :: .ref r :: q) H Q = jm_w S D mi pc' ls q (jm_pI H r b x) Q :=
  js3 hat rfl hrv (by show (if (0 : Nat) = 0 then jm_pf a b (.int x :: .ref r :: q) H else none) = _; rw [if_pos rfl]; unfold jm_pf; simp only [hf, if_pos ht]) hn
theorem jspZ {i a b r pc' : Nat} {x : Int32} {q : List Value} (hat : jm_at mi pc = some (.putfield i)) (hrv : jm_rv mi (.putfield i) = (0, a, b, 0)) (hf : jm_ft a b = 3) (ht : jm_tg H r = a + 1) (hx : x = 0 ∨ x = 1) (hn : pc + 3 = pc') : jm_w S D mi pc ls (.int x :: .ref r :: q) H Q = jm_w S D mi pc' ls q (jm_pI H r b x) Q :=
  js3 hat rfl hrv (by show (if (0 : Nat) = 0 then jm_pf a b (.int x :: .ref r :: q) H else none) = _; rw [if_pos rfl]; unfold jm_pf; simp only [hf, if_pos (And.intro ht hx)]) hn
theorem jspL {i a b r pc' : Nat} {x : Int64} {q : List Value} (hat : jm_at mi pc = some (.putfield i)) (hrv : jm_rv mi (.putfield i) = (0, a, b, 0)) (hf : jm_ft a b = 1) (ht : jm_tg H r = a + 1) (hn : pc + 3 = pc') : jm_w S D mi pc ls (.long x :: .ref r :: q) H Q = jm_w S D mi pc' ls q (jm_pL H r b x) Q :=
  js3 hat rfl hrv (by show (if (0 : Nat) = 0 then jm_pf a b (.long x :: .ref r :: q) H else none) = _; rw [if_pos rfl]; unfold jm_pf; simp only [hf, if_pos ht]) hn
theorem jspR {i a b r x pc' : Nat} {q : List Value} (hat : jm_at mi pc = some (.putfield i)) (hrv : jm_rv mi (.putfield i) = (0, a, b, 0)) (hf : jm_ft a b = 2) (ht : jm_tg H r = a + 1) (hx : ¬ x = 0) (hn : pc + 3 = pc') : jm_w S D mi pc ls (.ref x :: .ref r :: q) H Q = jm_w S D mi pc' ls q (jm_pR H r b x) Q :=
  js3 hat rfl hrv (by show (if (0 : Nat) = 0 then jm_pf a b (.ref x :: .ref r :: q) H else none) = _; rw [if_pos rfl]; unfold jm_pf; simp only [hf, if_pos (And.intro ht hx)]) hn
theorem jsial {r pc' : Nat} {i : Int32} {q : List Value} (hat : jm_at mi pc = some .iaload) (h1 : ¬ r = 1) (ht : jm_tg H r = 100) (hi : ¬ (i < 0 ∨ jm_ln H r ≤ i.toNatClampNeg)) (hn : pc + 1 = pc') : jm_w S D mi pc ls (.int i :: .ref r :: q) H Q = jm_w S D mi pc' ls (.int (jm_I H r i.toNatClampNeg) :: q) H Q :=
  js3 hat rfl rfl (by unfold jm_hp; (try dsimp only); rw [if_neg h1, if_pos ⟨ht, hi⟩]) hn
theorem jslal {r pc' : Nat} {i : Int32} {q : List Value} (hat : jm_at mi pc = some .laload) (ht : jm_tg H r = 101) (hi : ¬ (i < 0 ∨ jm_ln H r ≤ i.toNatClampNeg)) (hn : pc + 1 = pc') : jm_w S D mi pc ls (.int i :: .ref r :: q) H Q = jm_w S D mi pc' ls (.long (jm_L H r i.toNatClampNeg) :: q) H Q :=
  js3 hat rfl rfl (by unfold jm_hp; (try dsimp only); rw [if_pos ⟨ht, hi⟩]) hn
theorem jsbal {r pc' : Nat} {i : Int32} {q : List Value} (hat : jm_at mi pc = some .baload) (ht : jm_tg H r = 102 ∨ jm_tg H r = 103) (hi : ¬ (i < 0 ∨ jm_ln H r ≤ i.toNatClampNeg)) (hn : pc + 1 = pc') : jm_w S D mi pc ls (.int i :: .ref r :: q) H Q = jm_w S D mi pc' ls (.int (jm_I H r i.toNatClampNeg) :: q) H Q :=
  js3 hat rfl rfl (by unfold jm_hp; (try dsimp only); rw [if_pos ⟨ht, hi⟩]) hn
theorem jsaal {r pc' : Nat} {i : Int32} {q : List Value} (hat : jm_at mi pc = some .aaload) (ht : jm_tg H r = 104 ∨ jm_tg H r = 105) (hi : ¬ (i < 0 ∨ jm_ln H r ≤ i.toNatClampNeg)) (h0 : ¬ jm_R H r i.toNatClampNeg = 0) (hn : pc + 1 = pc') : jm_w S D mi pc ls (.int i :: .ref r :: q) H Q = jm_w S D mi pc' ls (.ref (jm_R H r i.toNatClampNeg) :: q) H Q :=
  js3 hat rfl rfl (by unfold jm_hp; (try dsimp only); rw [if_pos ⟨ht, hi, h0⟩]) hn
theorem jsias {r pc' : Nat} {i x : Int32} {q : List Value} (hat : jm_at mi pc = some .iastore) (ht : jm_tg H r = 100) (hi : ¬ (i < 0 ∨ jm_ln H r ≤ i.toNatClampNeg)) (hn : pc + 1 = pc') : jm_w S D mi pc ls (.int x :: .int i :: .ref r :: q) H Q = jm_w S D mi pc' ls q (jm_pI H r i.toNatClampNeg x) Q :=
  js3 hat rfl rfl (by unfold jm_hp; (try dsimp only); rw [if_pos ⟨ht, hi⟩]) hn
theorem jslas {r pc' : Nat} {i : Int32} {x : Int64} {q : List Value} (hat : jm_at mi pc = some .lastore) (ht : jm_tg H r = 101) (hi : ¬ (i < 0 ∨ jm_ln H r ≤ i.toNatClampNeg)) (hn : pc + 1 = pc') : jm_w S D mi pc ls (.long x :: .int i :: .ref r :: q) H Q = jm_w S D mi pc' ls q (jm_pL H r i.toNatClampNeg x) Q :=
  js3 hat rfl rfl (by unfold jm_hp; (try dsimp only); rw [if_pos ⟨ht, hi⟩]) hn
theorem jsbas {r pc' : Nat} {i x : Int32} {q : List Value} (hat : jm_at mi pc = some .bastore) (ht : jm_tg H r = 102) (hi : ¬ (i < 0 ∨ jm_ln H r ≤ i.toNatClampNeg)) (hn : pc + 1 = pc') : jm_w S D mi pc ls (.int x :: .int i :: .ref r :: q) H Q = jm_w S D mi pc' ls q (jm_pI H r i.toNatClampNeg x.toInt8.toInt32) Q :=
  js3 hat rfl rfl (by unfold jm_hp; (try dsimp only); rw [if_pos hi, if_pos ht]) hn
theorem jszas {r pc' : Nat} {i x : Int32} {q : List Value} (hat : jm_at mi pc = some .bastore) (ht : jm_tg H r = 103) (hi : ¬ (i < 0 ∨ jm_ln H r ≤ i.toNatClampNeg)) (hx : x = 0 ∨ x = 1) (hn : pc + 1 = pc') : jm_w S D mi pc ls (.int x :: .int i :: .ref r :: q) H Q = jm_w S D mi pc' ls q (jm_pI H r i.toNatClampNeg x) Q :=
  js3 hat rfl rfl (by unfold jm_hp; (try dsimp only); rw [if_pos hi, if_neg (by rw [ht]; decide), if_pos ⟨ht, hx⟩]) hn
theorem jsaln {r pc' : Nat} {q : List Value} (hat : jm_at mi pc = some .arraylength) (h1 : ¬ r = 1) (ht : 100 ≤ jm_tg H r) (hn : pc + 1 = pc') : jm_w S D mi pc ls (.ref r :: q) H Q = jm_w S D mi pc' ls (.int (Int32.ofNat (jm_ln H r)) :: q) H Q :=
  js3 hat rfl rfl (by unfold jm_hp; (try dsimp only); rw [if_neg h1, if_pos ht]) hn
theorem jssal {L : Nat} {xs : Nat → Int32} {pc' : Nat} {i : Int32} {q : List Value} (hat : jm_at mi pc = some .iaload) (hi : ¬ (i < 0 ∨ L ≤ i.toNatClampNeg)) (hn : pc + 1 = pc') : jm_w (some (L, xs)) D mi pc ls (.int i :: .ref 1 :: q) H Q = jm_w (some (L, xs)) D mi pc' ls (.int (xs i.toNatClampNeg) :: q) H Q :=
  js3 hat rfl rfl (by unfold jm_hp; (try dsimp only); rw [if_pos rfl, if_pos hi]) hn
theorem jssln {L : Nat} {xs : Nat → Int32} {pc' : Nat} {q : List Value} (hat : jm_at mi pc = some .arraylength) (hn : pc + 1 = pc') : jm_w (some (L, xs)) D mi pc ls (.ref 1 :: q) H Q = jm_w (some (L, xs)) D mi pc' ls (.int (Int32.ofNat L) :: q) H Q :=
  js3 hat rfl rfl (by unfold jm_hp; (try dsimp only); rw [if_pos rfl]) hn
end JWP
/-! the maps, read behind a write -/
theorem jm_I_pI (H : jm_H) (a k : Nat) (v : Int32) (b j : Nat) : jm_I (jm_pI H a k v) b j = if b = a ∧ j = k then v else jm_I H b j := by
  by_cases h : b = a
  · subst h
    show jm_u2 _ _ _ _ _ _ = _
    rw [jm_u2_at]
    by_cases h2 : j = k
    · rw [if_pos h2, if_pos ⟨rfl, h2⟩]
    · rw [if_neg h2, if_neg (fun q => h2 q.2)]; rfl
  · rw [if_neg (fun q => h q.1)]
    show jm_u2 _ _ _ _ _ _ = _
    rw [jm_u2_ne _ _ h]; rfl
theorem jm_L_pL (H : jm_H) (a k : Nat) (v : Int64) (b j : Nat) : jm_L (jm_pL H a k v) b j = if b = a ∧ j = k then v else jm_L H b j := by
  by_cases h : b = a
  · subst h
    show jm_u2 _ _ _ _ _ _ = _
    rw [jm_u2_at]
    by_cases h2 : j = k
    · rw [if_pos h2, if_pos ⟨rfl, h2⟩]
    · rw [if_neg h2, if_neg (fun q => h2 q.2)]; rfl
  · rw [if_neg (fun q => h q.1)]
    show jm_u2 _ _ _ _ _ _ = _
    rw [jm_u2_ne _ _ h]; rfl
theorem jm_R_pR (H : jm_H) (a k : Nat) (v : Nat) (b j : Nat) : jm_R (jm_pR H a k v) b j = if b = a ∧ j = k then v else jm_R H b j := by
  by_cases h : b = a
  · subst h
    show jm_u2 _ _ _ _ _ _ = _
    rw [jm_u2_at]
    by_cases h2 : j = k
    · rw [if_pos h2, if_pos ⟨rfl, h2⟩]
    · rw [if_neg h2, if_neg (fun q => h2 q.2)]; rfl
  · rw [if_neg (fun q => h q.1)]
    show jm_u2 _ _ _ _ _ _ = _
    rw [jm_u2_ne _ _ h]; rfl
theorem jm_I_pL (H : jm_H) (a k : Nat) (v : Int64) : jm_I (jm_pL H a k v) = jm_I H := rfl
theorem jm_I_pR (H : jm_H) (a k : Nat) (v : Nat) : jm_I (jm_pR H a k v) = jm_I H := rfl
theorem jm_L_pI (H : jm_H) (a k : Nat) (v : Int32) : jm_L (jm_pI H a k v) = jm_L H := rfl
theorem jm_L_pR (H : jm_H) (a k : Nat) (v : Nat) : jm_L (jm_pR H a k v) = jm_L H := rfl
theorem jm_R_pI (H : jm_H) (a k : Nat) (v : Int32) : jm_R (jm_pI H a k v) = jm_R H := rfl
theorem jm_R_pL (H : jm_H) (a k : Nat) (v : Int64) : jm_R (jm_pL H a k v) = jm_R H := rfl
theorem jm_tg_pI (H : jm_H) (a k : Nat) (v : Int32) : jm_tg (jm_pI H a k v) = jm_tg H := rfl
theorem jm_tg_pL (H : jm_H) (a k : Nat) (v : Int64) : jm_tg (jm_pL H a k v) = jm_tg H := rfl
theorem jm_tg_pR (H : jm_H) (a k : Nat) (v : Nat) : jm_tg (jm_pR H a k v) = jm_tg H := rfl
theorem jm_ln_pI (H : jm_H) (a k : Nat) (v : Int32) : jm_ln (jm_pI H a k v) = jm_ln H := rfl
theorem jm_ln_pL (H : jm_H) (a k : Nat) (v : Int64) : jm_ln (jm_pL H a k v) = jm_ln H := rfl
theorem jm_ln_pR (H : jm_H) (a k : Nat) (v : Nat) : jm_ln (jm_pR H a k v) = jm_ln H := rfl
theorem jm_n_pI (H : jm_H) (a k : Nat) (v : Int32) : jm_n (jm_pI H a k v) = jm_n H := rfl
theorem jm_n_pL (H : jm_H) (a k : Nat) (v : Int64) : jm_n (jm_pL H a k v) = jm_n H := rfl
theorem jm_n_pR (H : jm_H) (a k : Nat) (v : Nat) : jm_n (jm_pR H a k v) = jm_n H := rfl
theorem jm_s_pI (H : jm_H) (a k : Nat) (v : Int32) : jm_s (jm_pI H a k v) = jm_s H := rfl
theorem jm_s_pL (H : jm_H) (a k : Nat) (v : Int64) : jm_s (jm_pL H a k v) = jm_s H := rfl
theorem jm_s_pR (H : jm_H) (a k : Nat) (v : Nat) : jm_s (jm_pR H a k v) = jm_s H := rfl
end
section
section JW2
variable {S : Option (Nat × (Nat → Int32))} {D mi pc : Nat} {ls st : List Value} {H : jm_H} {Q : Option Value → jm_H → Prop}
theorem jsci {n : Int} {v : Int32} {pc' : Nat} (hat : jm_at mi pc = some (.iconst n)) (hv : Int32.ofInt n = v) (hn : pc + 1 = pc') : jm_w S D mi pc ls st H Q = jm_w S D mi pc' ls (.int v :: st) H Q := js0 hat rfl (by rw [← hv]; rfl) hn
theorem jscb {n : Int} {v : Int32} {pc' : Nat} (hat : jm_at mi pc = some (.bipush n)) (hv : (Int8.ofInt n).toInt32 = v) (hn : pc + 2 = pc') : jm_w S D mi pc ls st H Q = jm_w S D mi pc' ls (.int v :: st) H Q := js0 hat rfl (by rw [← hv]; rfl) hn
theorem jscs {n : Int} {v : Int32} {pc' : Nat} (hat : jm_at mi pc = some (.sipush n)) (hv : (Int16.ofInt n).toInt32 = v) (hn : pc + 3 = pc') : jm_w S D mi pc ls st H Q = jm_w S D mi pc' ls (.int v :: st) H Q := js0 hat rfl (by rw [← hv]; rfl) hn
theorem jscl {n : Fin 2} {v : Int64} {pc' : Nat} (hat : jm_at mi pc = some (.lconst n)) (hv : Int64.ofNat n = v) (hn : pc + 1 = pc') : jm_w S D mi pc ls st H Q = jm_w S D mi pc' ls (.long v :: st) H Q := js0 hat rfl (by rw [← hv]; rfl) hn
theorem jsk {i a b : Nat} {n : Int} {v : Int32} {pc' : Nat} (hat : jm_at mi pc = some (.ldc i)) (hrv : jm_rv mi (.ldc i) = (8, a, b, n)) (hv : Int32.ofInt n = v) (hn : pc + 2 = pc') : jm_w S D mi pc ls st H Q = jm_w S D mi pc' ls (.int v :: st) H Q := js3 hat rfl hrv (by show (if (8 : Nat) = 8 then some (Value.int (Int32.ofInt n) :: st, H) else none) = _; rw [if_pos rfl, hv]) hn
theorem jskw {i a b : Nat} {n : Int} {v : Int32} {pc' : Nat} (hat : jm_at mi pc = some (.ldc_w i)) (hrv : jm_rv mi (.ldc_w i) = (8, a, b, n)) (hv : Int32.ofInt n = v) (hn : pc + 3 = pc') : jm_w S D mi pc ls st H Q = jm_w S D mi pc' ls (.int v :: st) H Q := js3 hat rfl hrv (by show (if (8 : Nat) = 8 then some (Value.int (Int32.ofInt n) :: st, H) else none) = _; rw [if_pos rfl, hv]) hn
theorem jsk2 {i a b : Nat} {n : Int} {v : Int64} {pc' : Nat} (hat : jm_at mi pc = some (.ldc2_w i)) (hrv : jm_rv mi (.ldc2_w i) = (9, a, b, n)) (hv : Int64.ofInt n = v) (hn : pc + 3 = pc') : jm_w S D mi pc ls st H Q = jm_w S D mi pc' ls (.long v :: st) H Q := js3 hat rfl hrv (by show (if (9 : Nat) = 9 then some (Value.long (Int64.ofInt n) :: st, H) else none) = _; rw [if_pos rfl, hv]) hn
theorem jsinc {i : Nat} {n : Int} {x v : Int32} {pc' : Nat} (hat : jm_at mi pc = some (.iinc i n)) (hx : ls[i]? = some (.int x)) (hv : Int32.ofInt n = v) (hn : pc + 3 = pc') : jm_w S D mi pc ls st H Q = jm_w S D mi pc' (ls.set i (.int (x + v))) st H Q := js1 hat rfl (by unfold jm_loc; simp only [hx, hv]) hn
theorem jsidiv {x y : Int32} {q : List Value} {pc' : Nat} (hat : jm_at mi pc = some .idiv) (h : ¬ y = 0) (hn : pc + 1 = pc') : jm_w S D mi pc ls (.int y :: .int x :: q) H Q = jm_w S D mi pc' ls (.int (x / y) :: q) H Q := js0 hat rfl (by unfold jm_alu; simp only [if_neg h]) hn
theorem jsirem {x y : Int32} {q : List Value} {pc' : Nat} (hat : jm_at mi pc = some .irem) (h : ¬ y = 0) (hn : pc + 1 = pc') : jm_w S D mi pc ls (.int y :: .int x :: q) H Q = jm_w S D mi pc' ls (.int (x - x / y * y) :: q) H Q := js0 hat rfl (by unfold jm_alu; simp only [if_neg h]) hn
theorem jsldiv {x y : Int64} {q : List Value} {pc' : Nat} (hat : jm_at mi pc = some .ldiv) (h : ¬ y = 0) (hn : pc + 1 = pc') : jm_w S D mi pc ls (.long y :: .long x :: q) H Q = jm_w S D mi pc' ls (.long (x / y) :: q) H Q := js0 hat rfl (by unfold jm_alu; simp only [if_neg h]) hn
theorem jslrem {x y : Int64} {q : List Value} {pc' : Nat} (hat : jm_at mi pc = some .lrem) (h : ¬ y = 0) (hn : pc + 1 = pc') : jm_w S D mi pc ls (.long y :: .long x :: q) H Q = jm_w S D mi pc' ls (.long (x - x / y * y) :: q) H Q := js0 hat rfl (by unfold jm_alu; simp only [if_neg h]) hn
end JW2
end
