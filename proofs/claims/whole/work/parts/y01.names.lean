-- ===== PART A: goes FIRST, ahead of the names: the tables' words, and 'selects' of the private methods out of them =====
/-- a private method of a class that the tables say can be made, by its rows of tables_1 -/
def lw_okq (q : MethodName × Nat) : Prop := (q.1.cls ≠ "java/lang/invoke/MethodHandle" ∧ q.1.cls ≠ "java/lang/invoke/VarHandle") ∧ Cond.instantiable q.1.cls q.2 ∈ tables_1 ∧ Cond.privateMethod q.1 ∈ tables_1 ∧ Cond.instanceMethod q.1 ∈ tables_1
theorem lw_p0 : lw_okq (⟨"EngineShed$Reader", "begin", "()V"⟩, 16) := ⟨⟨by decide +kernel, by decide +kernel⟩, List.mem_of_getElem? (i := 79) (by decide +kernel), List.mem_of_getElem? (i := 470) (by decide +kernel), List.mem_of_getElem? (i := 471) (by decide +kernel)⟩
theorem lw_p1 : lw_okq (⟨"EngineShed$Reader", "nextToken", "()V"⟩, 16) := ⟨⟨by decide +kernel, by decide +kernel⟩, List.mem_of_getElem? (i := 79) (by decide +kernel), List.mem_of_getElem? (i := 478) (by decide +kernel), List.mem_of_getElem? (i := 479) (by decide +kernel)⟩
theorem lw_p2 : lw_okq (⟨"EngineShed$Reader", "isBlankAt", "(I)Z"⟩, 16) := ⟨⟨by decide +kernel, by decide +kernel⟩, List.mem_of_getElem? (i := 79) (by decide +kernel), List.mem_of_getElem? (i := 482) (by decide +kernel), List.mem_of_getElem? (i := 483) (by decide +kernel)⟩
theorem lw_p3 : lw_okq (⟨"EngineShed$Reader", "byteAt", "(I)I"⟩, 16) := ⟨⟨by decide +kernel, by decide +kernel⟩, List.mem_of_getElem? (i := 79) (by decide +kernel), List.mem_of_getElem? (i := 486) (by decide +kernel), List.mem_of_getElem? (i := 487) (by decide +kernel)⟩
theorem lw_p4 : lw_okq (⟨"EngineShed$Reader", "isLetterAt", "(I)Z"⟩, 16) := ⟨⟨by decide +kernel, by decide +kernel⟩, List.mem_of_getElem? (i := 79) (by decide +kernel), List.mem_of_getElem? (i := 490) (by decide +kernel), List.mem_of_getElem? (i := 491) (by decide +kernel)⟩
theorem lw_p5 : lw_okq (⟨"EngineShed$Reader", "scanWord", "()V"⟩, 16) := ⟨⟨by decide +kernel, by decide +kernel⟩, List.mem_of_getElem? (i := 79) (by decide +kernel), List.mem_of_getElem? (i := 497) (by decide +kernel), List.mem_of_getElem? (i := 498) (by decide +kernel)⟩
theorem lw_p6 : lw_okq (⟨"EngineShed$Reader", "indexIn", "(Ljava/lang/String;)I"⟩, 16) := ⟨⟨by decide +kernel, by decide +kernel⟩, List.mem_of_getElem? (i := 79) (by decide +kernel), List.mem_of_getElem? (i := 503) (by decide +kernel), List.mem_of_getElem? (i := 504) (by decide +kernel)⟩
theorem lw_p7 : lw_okq (⟨"EngineShed$Reader", "kindOfLink", "()I"⟩, 16) := ⟨⟨by decide +kernel, by decide +kernel⟩, List.mem_of_getElem? (i := 79) (by decide +kernel), List.mem_of_getElem? (i := 556) (by decide +kernel), List.mem_of_getElem? (i := 557) (by decide +kernel)⟩
theorem lw_p8 : lw_okq (⟨"EngineShed$Reader", "isDigitAt", "(I)Z"⟩, 16) := ⟨⟨by decide +kernel, by decide +kernel⟩, List.mem_of_getElem? (i := 79) (by decide +kernel), List.mem_of_getElem? (i := 561) (by decide +kernel), List.mem_of_getElem? (i := 562) (by decide +kernel)⟩
theorem lw_p9 : lw_okq (⟨"EngineShed$Reader", "scanInt", "()V"⟩, 16) := ⟨⟨by decide +kernel, by decide +kernel⟩, List.mem_of_getElem? (i := 79) (by decide +kernel), List.mem_of_getElem? (i := 565) (by decide +kernel), List.mem_of_getElem? (i := 566) (by decide +kernel)⟩
theorem lw_p10 : lw_okq (⟨"EngineShed$Reader", "scanSign", "()V"⟩, 16) := ⟨⟨by decide +kernel, by decide +kernel⟩, List.mem_of_getElem? (i := 79) (by decide +kernel), List.mem_of_getElem? (i := 569) (by decide +kernel), List.mem_of_getElem? (i := 570) (by decide +kernel)⟩
theorem lw_p11 : lw_okq (⟨"EngineShed$Reader", "judge", "()I"⟩, 16) := ⟨⟨by decide +kernel, by decide +kernel⟩, List.mem_of_getElem? (i := 79) (by decide +kernel), List.mem_of_getElem? (i := 633) (by decide +kernel), List.mem_of_getElem? (i := 634) (by decide +kernel)⟩
theorem lw_p12 : lw_okq (⟨"EngineShed$Reader", "goesOn", "()Z"⟩, 16) := ⟨⟨by decide +kernel, by decide +kernel⟩, List.mem_of_getElem? (i := 79) (by decide +kernel), List.mem_of_getElem? (i := 637) (by decide +kernel), List.mem_of_getElem? (i := 638) (by decide +kernel)⟩
theorem lw_p13 : lw_okq (⟨"EngineShed$Reader", "goesOnBehindUnit", "()Z"⟩, 16) := ⟨⟨by decide +kernel, by decide +kernel⟩, List.mem_of_getElem? (i := 79) (by decide +kernel), List.mem_of_getElem? (i := 641) (by decide +kernel), List.mem_of_getElem? (i := 642) (by decide +kernel)⟩
theorem lw_p14 : lw_okq (⟨"EngineShed$Reader", "take", "()V"⟩, 16) := ⟨⟨by decide +kernel, by decide +kernel⟩, List.mem_of_getElem? (i := 79) (by decide +kernel), List.mem_of_getElem? (i := 645) (by decide +kernel), List.mem_of_getElem? (i := 646) (by decide +kernel)⟩
theorem lw_p15 : lw_okq (⟨"EngineShed$Reader", "takeName", "()V"⟩, 16) := ⟨⟨by decide +kernel, by decide +kernel⟩, List.mem_of_getElem? (i := 79) (by decide +kernel), List.mem_of_getElem? (i := 649) (by decide +kernel), List.mem_of_getElem? (i := 650) (by decide +kernel)⟩
def lw_privs_1 : List (MethodName × Nat) := [(⟨"EngineShed$Reader", "begin", "()V"⟩, 16), (⟨"EngineShed$Reader", "nextToken", "()V"⟩, 16), (⟨"EngineShed$Reader", "isBlankAt", "(I)Z"⟩, 16), (⟨"EngineShed$Reader", "byteAt", "(I)I"⟩, 16), (⟨"EngineShed$Reader", "isLetterAt", "(I)Z"⟩, 16), (⟨"EngineShed$Reader", "scanWord", "()V"⟩, 16), (⟨"EngineShed$Reader", "indexIn", "(Ljava/lang/String;)I"⟩, 16), (⟨"EngineShed$Reader", "kindOfLink", "()I"⟩, 16), (⟨"EngineShed$Reader", "isDigitAt", "(I)Z"⟩, 16), (⟨"EngineShed$Reader", "scanInt", "()V"⟩, 16), (⟨"EngineShed$Reader", "scanSign", "()V"⟩, 16), (⟨"EngineShed$Reader", "judge", "()I"⟩, 16), (⟨"EngineShed$Reader", "goesOn", "()Z"⟩, 16), (⟨"EngineShed$Reader", "goesOnBehindUnit", "()Z"⟩, 16), (⟨"EngineShed$Reader", "take", "()V"⟩, 16), (⟨"EngineShed$Reader", "takeName", "()V"⟩, 16)]
theorem lw_r1 : ∀ q ∈ lw_privs_1, lw_okq q := List.forall_mem_cons.mpr ⟨lw_p0, List.forall_mem_cons.mpr ⟨lw_p1, List.forall_mem_cons.mpr ⟨lw_p2, List.forall_mem_cons.mpr ⟨lw_p3, List.forall_mem_cons.mpr ⟨lw_p4, List.forall_mem_cons.mpr ⟨lw_p5, List.forall_mem_cons.mpr ⟨lw_p6, List.forall_mem_cons.mpr ⟨lw_p7, List.forall_mem_cons.mpr ⟨lw_p8, List.forall_mem_cons.mpr ⟨lw_p9, List.forall_mem_cons.mpr ⟨lw_p10, List.forall_mem_cons.mpr ⟨lw_p11, List.forall_mem_cons.mpr ⟨lw_p12, List.forall_mem_cons.mpr ⟨lw_p13, List.forall_mem_cons.mpr ⟨lw_p14, List.forall_mem_cons.mpr ⟨lw_p15, fun _ h => absurd h List.not_mem_nil⟩⟩⟩⟩⟩⟩⟩⟩⟩⟩⟩⟩⟩⟩⟩⟩
theorem lw_p16 : lw_okq (⟨"EngineShed$Reader", "awaitLiteral", "()V"⟩, 16) := ⟨⟨by decide +kernel, by decide +kernel⟩, List.mem_of_getElem? (i := 79) (by decide +kernel), List.mem_of_getElem? (i := 661) (by decide +kernel), List.mem_of_getElem? (i := 662) (by decide +kernel)⟩
theorem lw_p17 : lw_okq (⟨"EngineShed$Reader", "takeUnit", "()V"⟩, 16) := ⟨⟨by decide +kernel, by decide +kernel⟩, List.mem_of_getElem? (i := 79) (by decide +kernel), List.mem_of_getElem? (i := 665) (by decide +kernel), List.mem_of_getElem? (i := 666) (by decide +kernel)⟩
theorem lw_p18 : lw_okq (⟨"EngineShed$Reader", "keepWaiting", "(I)V"⟩, 16) := ⟨⟨by decide +kernel, by decide +kernel⟩, List.mem_of_getElem? (i := 79) (by decide +kernel), List.mem_of_getElem? (i := 669) (by decide +kernel), List.mem_of_getElem? (i := 670) (by decide +kernel)⟩
theorem lw_p19 : lw_okq (⟨"EngineShed$Reader", "takeBehindUnit", "()V"⟩, 16) := ⟨⟨by decide +kernel, by decide +kernel⟩, List.mem_of_getElem? (i := 79) (by decide +kernel), List.mem_of_getElem? (i := 677) (by decide +kernel), List.mem_of_getElem? (i := 678) (by decide +kernel)⟩
theorem lw_p20 : lw_okq (⟨"EngineShed$Reader", "emitDownTo", "(I)V"⟩, 16) := ⟨⟨by decide +kernel, by decide +kernel⟩, List.mem_of_getElem? (i := 79) (by decide +kernel), List.mem_of_getElem? (i := 683) (by decide +kernel), List.mem_of_getElem? (i := 684) (by decide +kernel)⟩
theorem lw_p21 : lw_okq (⟨"EngineShed$Reader", "takeOperator", "()V"⟩, 16) := ⟨⟨by decide +kernel, by decide +kernel⟩, List.mem_of_getElem? (i := 79) (by decide +kernel), List.mem_of_getElem? (i := 687) (by decide +kernel), List.mem_of_getElem? (i := 688) (by decide +kernel)⟩
theorem lw_p22 : lw_okq (⟨"EngineShed$Reader", "takeRuleEnd", "()V"⟩, 16) := ⟨⟨by decide +kernel, by decide +kernel⟩, List.mem_of_getElem? (i := 79) (by decide +kernel), List.mem_of_getElem? (i := 695) (by decide +kernel), List.mem_of_getElem? (i := 696) (by decide +kernel)⟩
theorem lw_p23 : lw_okq (⟨"EngineShed$Reader", "takeFirst", "()V"⟩, 16) := ⟨⟨by decide +kernel, by decide +kernel⟩, List.mem_of_getElem? (i := 79) (by decide +kernel), List.mem_of_getElem? (i := 703) (by decide +kernel), List.mem_of_getElem? (i := 704) (by decide +kernel)⟩
theorem lw_p24 : lw_okq (⟨"EngineShed", "addValued", "(IIIII)I"⟩, 7) := ⟨⟨by decide +kernel, by decide +kernel⟩, List.mem_of_getElem? (i := 24) (by decide +kernel), List.mem_of_getElem? (i := 1016) (by decide +kernel), List.mem_of_getElem? (i := 1017) (by decide +kernel)⟩
theorem lw_p25 : lw_okq (⟨"EngineShed$Book", "layText", "(I)V"⟩, 11) := ⟨⟨by decide +kernel, by decide +kernel⟩, List.mem_of_getElem? (i := 32) (by decide +kernel), List.mem_of_getElem? (i := 1041) (by decide +kernel), List.mem_of_getElem? (i := 1042) (by decide +kernel)⟩
theorem lw_p26 : lw_okq (⟨"EngineShed$Book", "find", "(J)I"⟩, 11) := ⟨⟨by decide +kernel, by decide +kernel⟩, List.mem_of_getElem? (i := 32) (by decide +kernel), List.mem_of_getElem? (i := 1045) (by decide +kernel), List.mem_of_getElem? (i := 1046) (by decide +kernel)⟩
theorem lw_p27 : lw_okq (⟨"EngineShed$Book", "strikeAt", "(I)V"⟩, 11) := ⟨⟨by decide +kernel, by decide +kernel⟩, List.mem_of_getElem? (i := 32) (by decide +kernel), List.mem_of_getElem? (i := 1049) (by decide +kernel), List.mem_of_getElem? (i := 1050) (by decide +kernel)⟩
theorem lw_p28 : lw_okq (⟨"EngineShed$Board", "startAnew", "(I)V"⟩, 20) := ⟨⟨by decide +kernel, by decide +kernel⟩, List.mem_of_getElem? (i := 182) (by decide +kernel), List.mem_of_getElem? (i := 1072) (by decide +kernel), List.mem_of_getElem? (i := 1073) (by decide +kernel)⟩
theorem lw_p29 : lw_okq (⟨"EngineShed$Board", "openDay", "(LEngineShed$Fact;)V"⟩, 20) := ⟨⟨by decide +kernel, by decide +kernel⟩, List.mem_of_getElem? (i := 182) (by decide +kernel), List.mem_of_getElem? (i := 1080) (by decide +kernel), List.mem_of_getElem? (i := 1081) (by decide +kernel)⟩
theorem lw_p30 : lw_okq (⟨"EngineShed$Book", "work", "(LEngineShed$Text;II)I"⟩, 11) := ⟨⟨by decide +kernel, by decide +kernel⟩, List.mem_of_getElem? (i := 32) (by decide +kernel), List.mem_of_getElem? (i := 1102) (by decide +kernel), List.mem_of_getElem? (i := 1103) (by decide +kernel)⟩
theorem lw_p31 : lw_okq (⟨"EngineShed$Book", "push", "(I)V"⟩, 11) := ⟨⟨by decide +kernel, by decide +kernel⟩, List.mem_of_getElem? (i := 32) (by decide +kernel), List.mem_of_getElem? (i := 1106) (by decide +kernel), List.mem_of_getElem? (i := 1107) (by decide +kernel)⟩
def lw_privs_2 : List (MethodName × Nat) := [(⟨"EngineShed$Reader", "awaitLiteral", "()V"⟩, 16), (⟨"EngineShed$Reader", "takeUnit", "()V"⟩, 16), (⟨"EngineShed$Reader", "keepWaiting", "(I)V"⟩, 16), (⟨"EngineShed$Reader", "takeBehindUnit", "()V"⟩, 16), (⟨"EngineShed$Reader", "emitDownTo", "(I)V"⟩, 16), (⟨"EngineShed$Reader", "takeOperator", "()V"⟩, 16), (⟨"EngineShed$Reader", "takeRuleEnd", "()V"⟩, 16), (⟨"EngineShed$Reader", "takeFirst", "()V"⟩, 16), (⟨"EngineShed", "addValued", "(IIIII)I"⟩, 7), (⟨"EngineShed$Book", "layText", "(I)V"⟩, 11), (⟨"EngineShed$Book", "find", "(J)I"⟩, 11), (⟨"EngineShed$Book", "strikeAt", "(I)V"⟩, 11), (⟨"EngineShed$Board", "startAnew", "(I)V"⟩, 20), (⟨"EngineShed$Board", "openDay", "(LEngineShed$Fact;)V"⟩, 20), (⟨"EngineShed$Book", "work", "(LEngineShed$Text;II)I"⟩, 11), (⟨"EngineShed$Book", "push", "(I)V"⟩, 11)]
theorem lw_r2 : ∀ q ∈ lw_privs_2, lw_okq q := List.forall_mem_cons.mpr ⟨lw_p16, List.forall_mem_cons.mpr ⟨lw_p17, List.forall_mem_cons.mpr ⟨lw_p18, List.forall_mem_cons.mpr ⟨lw_p19, List.forall_mem_cons.mpr ⟨lw_p20, List.forall_mem_cons.mpr ⟨lw_p21, List.forall_mem_cons.mpr ⟨lw_p22, List.forall_mem_cons.mpr ⟨lw_p23, List.forall_mem_cons.mpr ⟨lw_p24, List.forall_mem_cons.mpr ⟨lw_p25, List.forall_mem_cons.mpr ⟨lw_p26, List.forall_mem_cons.mpr ⟨lw_p27, List.forall_mem_cons.mpr ⟨lw_p28, List.forall_mem_cons.mpr ⟨lw_p29, List.forall_mem_cons.mpr ⟨lw_p30, List.forall_mem_cons.mpr ⟨lw_p31, fun _ h => absurd h List.not_mem_nil⟩⟩⟩⟩⟩⟩⟩⟩⟩⟩⟩⟩⟩⟩⟩⟩
theorem lw_p32 : lw_okq (⟨"EngineShed$Book", "apply", "(I)V"⟩, 11) := ⟨⟨by decide +kernel, by decide +kernel⟩, List.mem_of_getElem? (i := 32) (by decide +kernel), List.mem_of_getElem? (i := 1110) (by decide +kernel), List.mem_of_getElem? (i := 1111) (by decide +kernel)⟩
theorem lw_p33 : lw_okq (⟨"EngineShed$Book", "compareBoth", "(III)I"⟩, 11) := ⟨⟨by decide +kernel, by decide +kernel⟩, List.mem_of_getElem? (i := 32) (by decide +kernel), List.mem_of_getElem? (i := 1115) (by decide +kernel), List.mem_of_getElem? (i := 1116) (by decide +kernel)⟩
theorem lw_p34 : lw_okq (⟨"EngineShed$Book", "combine", "(III)I"⟩, 11) := ⟨⟨by decide +kernel, by decide +kernel⟩, List.mem_of_getElem? (i := 32) (by decide +kernel), List.mem_of_getElem? (i := 1119) (by decide +kernel), List.mem_of_getElem? (i := 1120) (by decide +kernel)⟩
theorem lw_p35 : lw_okq (⟨"EngineShed$Board", "step", "(LEngineShed$Fact;)V"⟩, 20) := ⟨⟨by decide +kernel, by decide +kernel⟩, List.mem_of_getElem? (i := 182) (by decide +kernel), List.mem_of_getElem? (i := 1123) (by decide +kernel), List.mem_of_getElem? (i := 1124) (by decide +kernel)⟩
theorem lw_p36 : lw_okq (⟨"EngineShed$Board", "stepRun", "(LEngineShed$Fact;LEngineShed$Engine;)V"⟩, 20) := ⟨⟨by decide +kernel, by decide +kernel⟩, List.mem_of_getElem? (i := 182) (by decide +kernel), List.mem_of_getElem? (i := 1147) (by decide +kernel), List.mem_of_getElem? (i := 1148) (by decide +kernel)⟩
theorem lw_p37 : lw_okq (⟨"EngineShed$Board", "whyNotMan", "(LEngineShed$Fact;LEngineShed$Turn;)I"⟩, 20) := ⟨⟨by decide +kernel, by decide +kernel⟩, List.mem_of_getElem? (i := 182) (by decide +kernel), List.mem_of_getElem? (i := 1155) (by decide +kernel), List.mem_of_getElem? (i := 1156) (by decide +kernel)⟩
theorem lw_p38 : lw_okq (⟨"EngineShed$Board", "stepFails", "(LEngineShed$Fact;LEngineShed$Engine;)V"⟩, 20) := ⟨⟨by decide +kernel, by decide +kernel⟩, List.mem_of_getElem? (i := 182) (by decide +kernel), List.mem_of_getElem? (i := 1178) (by decide +kernel), List.mem_of_getElem? (i := 1179) (by decide +kernel)⟩
theorem lw_p39 : lw_okq (⟨"EngineShed$Board", "isSpareAt", "(LEngineShed$Fact;LEngineShed$Fact;)Z"⟩, 20) := ⟨⟨by decide +kernel, by decide +kernel⟩, List.mem_of_getElem? (i := 182) (by decide +kernel), List.mem_of_getElem? (i := 1223) (by decide +kernel), List.mem_of_getElem? (i := 1224) (by decide +kernel)⟩
theorem lw_p40 : lw_okq (⟨"EngineShed$Duties", "findAble", "(LEngineShed$Board;ILEngineShed$Turn;)I"⟩, 8) := ⟨⟨by decide +kernel, by decide +kernel⟩, List.mem_of_getElem? (i := 273) (by decide +kernel), List.mem_of_getElem? (i := 1258) (by decide +kernel), List.mem_of_getElem? (i := 1259) (by decide +kernel)⟩
theorem lw_p41 : lw_okq (⟨"EngineShed$Duties", "findLack", "()I"⟩, 8) := ⟨⟨by decide +kernel, by decide +kernel⟩, List.mem_of_getElem? (i := 273) (by decide +kernel), List.mem_of_getElem? (i := 1273) (by decide +kernel), List.mem_of_getElem? (i := 1274) (by decide +kernel)⟩
theorem lw_p42 : lw_okq (⟨"EngineShed$Duties", "reckonLeast", "(I)V"⟩, 8) := ⟨⟨by decide +kernel, by decide +kernel⟩, List.mem_of_getElem? (i := 273) (by decide +kernel), List.mem_of_getElem? (i := 1281) (by decide +kernel), List.mem_of_getElem? (i := 1282) (by decide +kernel)⟩
theorem lw_p43 : lw_okq (⟨"EngineShed$Duties", "priceWith", "(III)I"⟩, 8) := ⟨⟨by decide +kernel, by decide +kernel⟩, List.mem_of_getElem? (i := 273) (by decide +kernel), List.mem_of_getElem? (i := 1286) (by decide +kernel), List.mem_of_getElem? (i := 1287) (by decide +kernel)⟩
theorem lw_p44 : lw_okq (⟨"EngineShed$Duties", "choose", "(I)V"⟩, 8) := ⟨⟨by decide +kernel, by decide +kernel⟩, List.mem_of_getElem? (i := 273) (by decide +kernel), List.mem_of_getElem? (i := 1291) (by decide +kernel), List.mem_of_getElem? (i := 1292) (by decide +kernel)⟩
theorem lw_p45 : lw_okq (⟨"EngineShed$Stabling", "tryRoads", "(III)V"⟩, 11) := ⟨⟨by decide +kernel, by decide +kernel⟩, List.mem_of_getElem? (i := 309) (by decide +kernel), List.mem_of_getElem? (i := 1330) (by decide +kernel), List.mem_of_getElem? (i := 1331) (by decide +kernel)⟩
theorem lw_p46 : lw_okq (⟨"EngineShed$Calendar", "findAble", "(LEngineShed$Board;I)I"⟩, 13) := ⟨⟨by decide +kernel, by decide +kernel⟩, List.mem_of_getElem? (i := 353) (by decide +kernel), List.mem_of_getElem? (i := 1358) (by decide +kernel), List.mem_of_getElem? (i := 1359) (by decide +kernel)⟩
theorem lw_p47 : lw_okq (⟨"EngineShed$Calendar", "tryMonths", "(II)Z"⟩, 13) := ⟨⟨by decide +kernel, by decide +kernel⟩, List.mem_of_getElem? (i := 353) (by decide +kernel), List.mem_of_getElem? (i := 1367) (by decide +kernel), List.mem_of_getElem? (i := 1368) (by decide +kernel)⟩
def lw_privs_3 : List (MethodName × Nat) := [(⟨"EngineShed$Book", "apply", "(I)V"⟩, 11), (⟨"EngineShed$Book", "compareBoth", "(III)I"⟩, 11), (⟨"EngineShed$Book", "combine", "(III)I"⟩, 11), (⟨"EngineShed$Board", "step", "(LEngineShed$Fact;)V"⟩, 20), (⟨"EngineShed$Board", "stepRun", "(LEngineShed$Fact;LEngineShed$Engine;)V"⟩, 20), (⟨"EngineShed$Board", "whyNotMan", "(LEngineShed$Fact;LEngineShed$Turn;)I"⟩, 20), (⟨"EngineShed$Board", "stepFails", "(LEngineShed$Fact;LEngineShed$Engine;)V"⟩, 20), (⟨"EngineShed$Board", "isSpareAt", "(LEngineShed$Fact;LEngineShed$Fact;)Z"⟩, 20), (⟨"EngineShed$Duties", "findAble", "(LEngineShed$Board;ILEngineShed$Turn;)I"⟩, 8), (⟨"EngineShed$Duties", "findLack", "()I"⟩, 8), (⟨"EngineShed$Duties", "reckonLeast", "(I)V"⟩, 8), (⟨"EngineShed$Duties", "priceWith", "(III)I"⟩, 8), (⟨"EngineShed$Duties", "choose", "(I)V"⟩, 8), (⟨"EngineShed$Stabling", "tryRoads", "(III)V"⟩, 11), (⟨"EngineShed$Calendar", "findAble", "(LEngineShed$Board;I)I"⟩, 13), (⟨"EngineShed$Calendar", "tryMonths", "(II)Z"⟩, 13)]
theorem lw_r3 : ∀ q ∈ lw_privs_3, lw_okq q := List.forall_mem_cons.mpr ⟨lw_p32, List.forall_mem_cons.mpr ⟨lw_p33, List.forall_mem_cons.mpr ⟨lw_p34, List.forall_mem_cons.mpr ⟨lw_p35, List.forall_mem_cons.mpr ⟨lw_p36, List.forall_mem_cons.mpr ⟨lw_p37, List.forall_mem_cons.mpr ⟨lw_p38, List.forall_mem_cons.mpr ⟨lw_p39, List.forall_mem_cons.mpr ⟨lw_p40, List.forall_mem_cons.mpr ⟨lw_p41, List.forall_mem_cons.mpr ⟨lw_p42, List.forall_mem_cons.mpr ⟨lw_p43, List.forall_mem_cons.mpr ⟨lw_p44, List.forall_mem_cons.mpr ⟨lw_p45, List.forall_mem_cons.mpr ⟨lw_p46, List.forall_mem_cons.mpr ⟨lw_p47, fun _ h => absurd h List.not_mem_nil⟩⟩⟩⟩⟩⟩⟩⟩⟩⟩⟩⟩⟩⟩⟩⟩
theorem lw_p48 : lw_okq (⟨"EngineShed$Calendar", "isEnoughWithout", "(I)Z"⟩, 13) := ⟨⟨by decide +kernel, by decide +kernel⟩, List.mem_of_getElem? (i := 353) (by decide +kernel), List.mem_of_getElem? (i := 1372) (by decide +kernel), List.mem_of_getElem? (i := 1373) (by decide +kernel)⟩
theorem lw_p49 : lw_okq (⟨"EngineShed$Calendar", "tryWithout", "(I)Z"⟩, 13) := ⟨⟨by decide +kernel, by decide +kernel⟩, List.mem_of_getElem? (i := 353) (by decide +kernel), List.mem_of_getElem? (i := 1376) (by decide +kernel), List.mem_of_getElem? (i := 1377) (by decide +kernel)⟩
theorem lw_p50 : lw_okq (⟨"EngineShed$Blame", "note", "(I)V"⟩, 6) := ⟨⟨by decide +kernel, by decide +kernel⟩, List.mem_of_getElem? (i := 402) (by decide +kernel), List.mem_of_getElem? (i := 1392) (by decide +kernel), List.mem_of_getElem? (i := 1393) (by decide +kernel)⟩
theorem lw_p51 : lw_okq (⟨"EngineShed$Blame", "pick", "(III)V"⟩, 6) := ⟨⟨by decide +kernel, by decide +kernel⟩, List.mem_of_getElem? (i := 402) (by decide +kernel), List.mem_of_getElem? (i := 1400) (by decide +kernel), List.mem_of_getElem? (i := 1401) (by decide +kernel)⟩
theorem lw_p52 : lw_okq (⟨"EngineShed$Blame", "hitsAll", "(I)Z"⟩, 6) := ⟨⟨by decide +kernel, by decide +kernel⟩, List.mem_of_getElem? (i := 402) (by decide +kernel), List.mem_of_getElem? (i := 1404) (by decide +kernel), List.mem_of_getElem? (i := 1405) (by decide +kernel)⟩
theorem lw_p53 : lw_okq (⟨"EngineShedModel", "put", "(I)V"⟩, 120) := ⟨⟨by decide +kernel, by decide +kernel⟩, List.mem_of_getElem? (i := 1429) (by decide +kernel), List.mem_of_getElem? (i := 1807) (by decide +kernel), List.mem_of_getElem? (i := 1808) (by decide +kernel)⟩
theorem lw_p54 : lw_okq (⟨"EngineShedModel", "cut", "()V"⟩, 120) := ⟨⟨by decide +kernel, by decide +kernel⟩, List.mem_of_getElem? (i := 1429) (by decide +kernel), List.mem_of_getElem? (i := 1819) (by decide +kernel), List.mem_of_getElem? (i := 1820) (by decide +kernel)⟩
theorem lw_p55 : lw_okq (⟨"EngineShedModel", "at", "(I)I"⟩, 120) := ⟨⟨by decide +kernel, by decide +kernel⟩, List.mem_of_getElem? (i := 1429) (by decide +kernel), List.mem_of_getElem? (i := 1823) (by decide +kernel), List.mem_of_getElem? (i := 1824) (by decide +kernel)⟩
theorem lw_p56 : lw_okq (⟨"EngineShedModel", "token", "(IIIJ)V"⟩, 120) := ⟨⟨by decide +kernel, by decide +kernel⟩, List.mem_of_getElem? (i := 1429) (by decide +kernel), List.mem_of_getElem? (i := 1827) (by decide +kernel), List.mem_of_getElem? (i := 1828) (by decide +kernel)⟩
theorem lw_p57 : lw_okq (⟨"EngineShedModel", "sign", "(III)I"⟩, 120) := ⟨⟨by decide +kernel, by decide +kernel⟩, List.mem_of_getElem? (i := 1429) (by decide +kernel), List.mem_of_getElem? (i := 1837) (by decide +kernel), List.mem_of_getElem? (i := 1838) (by decide +kernel)⟩
theorem lw_p58 : lw_okq (⟨"EngineShedModel", "is", "(I)Z"⟩, 120) := ⟨⟨by decide +kernel, by decide +kernel⟩, List.mem_of_getElem? (i := 1429) (by decide +kernel), List.mem_of_getElem? (i := 1841) (by decide +kernel), List.mem_of_getElem? (i := 1842) (by decide +kernel)⟩
theorem lw_p59 : lw_okq (⟨"EngineShedModel", "next", "()V"⟩, 120) := ⟨⟨by decide +kernel, by decide +kernel⟩, List.mem_of_getElem? (i := 1429) (by decide +kernel), List.mem_of_getElem? (i := 1845) (by decide +kernel), List.mem_of_getElem? (i := 1846) (by decide +kernel)⟩
theorem lw_p60 : lw_okq (⟨"EngineShedModel", "fail", "(I)V"⟩, 120) := ⟨⟨by decide +kernel, by decide +kernel⟩, List.mem_of_getElem? (i := 1429) (by decide +kernel), List.mem_of_getElem? (i := 1849) (by decide +kernel), List.mem_of_getElem? (i := 1850) (by decide +kernel)⟩
theorem lw_p61 : lw_okq (⟨"EngineShedModel", "must", "(I)V"⟩, 120) := ⟨⟨by decide +kernel, by decide +kernel⟩, List.mem_of_getElem? (i := 1429) (by decide +kernel), List.mem_of_getElem? (i := 1853) (by decide +kernel), List.mem_of_getElem? (i := 1854) (by decide +kernel)⟩
theorem lw_p62 : lw_okq (⟨"EngineShedModel", "wrong", "(II)V"⟩, 120) := ⟨⟨by decide +kernel, by decide +kernel⟩, List.mem_of_getElem? (i := 1429) (by decide +kernel), List.mem_of_getElem? (i := 1857) (by decide +kernel), List.mem_of_getElem? (i := 1858) (by decide +kernel)⟩
theorem lw_p63 : lw_okq (⟨"EngineShedModel", "tellRule", "()V"⟩, 120) := ⟨⟨by decide +kernel, by decide +kernel⟩, List.mem_of_getElem? (i := 1429) (by decide +kernel), List.mem_of_getElem? (i := 1861) (by decide +kernel), List.mem_of_getElem? (i := 1862) (by decide +kernel)⟩
def lw_privs_4 : List (MethodName × Nat) := [(⟨"EngineShed$Calendar", "isEnoughWithout", "(I)Z"⟩, 13), (⟨"EngineShed$Calendar", "tryWithout", "(I)Z"⟩, 13), (⟨"EngineShed$Blame", "note", "(I)V"⟩, 6), (⟨"EngineShed$Blame", "pick", "(III)V"⟩, 6), (⟨"EngineShed$Blame", "hitsAll", "(I)Z"⟩, 6), (⟨"EngineShedModel", "put", "(I)V"⟩, 120), (⟨"EngineShedModel", "cut", "()V"⟩, 120), (⟨"EngineShedModel", "at", "(I)I"⟩, 120), (⟨"EngineShedModel", "token", "(IIIJ)V"⟩, 120), (⟨"EngineShedModel", "sign", "(III)I"⟩, 120), (⟨"EngineShedModel", "is", "(I)Z"⟩, 120), (⟨"EngineShedModel", "next", "()V"⟩, 120), (⟨"EngineShedModel", "fail", "(I)V"⟩, 120), (⟨"EngineShedModel", "must", "(I)V"⟩, 120), (⟨"EngineShedModel", "wrong", "(II)V"⟩, 120), (⟨"EngineShedModel", "tellRule", "()V"⟩, 120)]
theorem lw_r4 : ∀ q ∈ lw_privs_4, lw_okq q := List.forall_mem_cons.mpr ⟨lw_p48, List.forall_mem_cons.mpr ⟨lw_p49, List.forall_mem_cons.mpr ⟨lw_p50, List.forall_mem_cons.mpr ⟨lw_p51, List.forall_mem_cons.mpr ⟨lw_p52, List.forall_mem_cons.mpr ⟨lw_p53, List.forall_mem_cons.mpr ⟨lw_p54, List.forall_mem_cons.mpr ⟨lw_p55, List.forall_mem_cons.mpr ⟨lw_p56, List.forall_mem_cons.mpr ⟨lw_p57, List.forall_mem_cons.mpr ⟨lw_p58, List.forall_mem_cons.mpr ⟨lw_p59, List.forall_mem_cons.mpr ⟨lw_p60, List.forall_mem_cons.mpr ⟨lw_p61, List.forall_mem_cons.mpr ⟨lw_p62, List.forall_mem_cons.mpr ⟨lw_p63, fun _ h => absurd h List.not_mem_nil⟩⟩⟩⟩⟩⟩⟩⟩⟩⟩⟩⟩⟩⟩⟩⟩
theorem lw_p64 : lw_okq (⟨"EngineShedModel", "expression", "()V"⟩, 120) := ⟨⟨by decide +kernel, by decide +kernel⟩, List.mem_of_getElem? (i := 1429) (by decide +kernel), List.mem_of_getElem? (i := 1865) (by decide +kernel), List.mem_of_getElem? (i := 1866) (by decide +kernel)⟩
theorem lw_p65 : lw_okq (⟨"EngineShedModel", "unit", "()V"⟩, 120) := ⟨⟨by decide +kernel, by decide +kernel⟩, List.mem_of_getElem? (i := 1429) (by decide +kernel), List.mem_of_getElem? (i := 1869) (by decide +kernel), List.mem_of_getElem? (i := 1870) (by decide +kernel)⟩
theorem lw_p66 : lw_okq (⟨"EngineShedModel", "emit", "(II)V"⟩, 120) := ⟨⟨by decide +kernel, by decide +kernel⟩, List.mem_of_getElem? (i := 1429) (by decide +kernel), List.mem_of_getElem? (i := 1873) (by decide +kernel), List.mem_of_getElem? (i := 1874) (by decide +kernel)⟩
theorem lw_p67 : lw_okq (⟨"EngineShedModel", "comesOut", "(Z)V"⟩, 120) := ⟨⟨by decide +kernel, by decide +kernel⟩, List.mem_of_getElem? (i := 1429) (by decide +kernel), List.mem_of_getElem? (i := 1877) (by decide +kernel), List.mem_of_getElem? (i := 1878) (by decide +kernel)⟩
theorem lw_p68 : lw_okq (⟨"EngineShedModel", "literal", "(Z)V"⟩, 120) := ⟨⟨by decide +kernel, by decide +kernel⟩, List.mem_of_getElem? (i := 1429) (by decide +kernel), List.mem_of_getElem? (i := 1881) (by decide +kernel), List.mem_of_getElem? (i := 1882) (by decide +kernel)⟩
theorem lw_p69 : lw_okq (⟨"EngineShedModel", "changed", "()V"⟩, 120) := ⟨⟨by decide +kernel, by decide +kernel⟩, List.mem_of_getElem? (i := 1429) (by decide +kernel), List.mem_of_getElem? (i := 1885) (by decide +kernel), List.mem_of_getElem? (i := 1886) (by decide +kernel)⟩
theorem lw_p70 : lw_okq (⟨"EngineShedModel", "forces", "(I)V"⟩, 120) := ⟨⟨by decide +kernel, by decide +kernel⟩, List.mem_of_getElem? (i := 1429) (by decide +kernel), List.mem_of_getElem? (i := 1903) (by decide +kernel), List.mem_of_getElem? (i := 1904) (by decide +kernel)⟩
theorem lw_p71 : lw_okq (⟨"EngineShedModel", "comes", "(I)V"⟩, 120) := ⟨⟨by decide +kernel, by decide +kernel⟩, List.mem_of_getElem? (i := 1429) (by decide +kernel), List.mem_of_getElem? (i := 1907) (by decide +kernel), List.mem_of_getElem? (i := 1908) (by decide +kernel)⟩
theorem lw_p72 : lw_okq (⟨"EngineShedModel", "isShed", "(I)Z"⟩, 120) := ⟨⟨by decide +kernel, by decide +kernel⟩, List.mem_of_getElem? (i := 1429) (by decide +kernel), List.mem_of_getElem? (i := 1923) (by decide +kernel), List.mem_of_getElem? (i := 1924) (by decide +kernel)⟩
theorem lw_p73 : lw_okq (⟨"EngineShedModel", "isEngine", "(I)Z"⟩, 120) := ⟨⟨by decide +kernel, by decide +kernel⟩, List.mem_of_getElem? (i := 1429) (by decide +kernel), List.mem_of_getElem? (i := 1943) (by decide +kernel), List.mem_of_getElem? (i := 1944) (by decide +kernel)⟩
theorem lw_p74 : lw_okq (⟨"EngineShedModel", "isTurn", "(I)Z"⟩, 120) := ⟨⟨by decide +kernel, by decide +kernel⟩, List.mem_of_getElem? (i := 1429) (by decide +kernel), List.mem_of_getElem? (i := 1947) (by decide +kernel), List.mem_of_getElem? (i := 1948) (by decide +kernel)⟩
theorem lw_p75 : lw_okq (⟨"EngineShedModel", "tellsFact", "(IIIII)I"⟩, 120) := ⟨⟨by decide +kernel, by decide +kernel⟩, List.mem_of_getElem? (i := 1429) (by decide +kernel), List.mem_of_getElem? (i := 1951) (by decide +kernel), List.mem_of_getElem? (i := 1952) (by decide +kernel)⟩
theorem lw_p76 : lw_okq (⟨"EngineShedModel", "isKnown", "(I)Z"⟩, 120) := ⟨⟨by decide +kernel, by decide +kernel⟩, List.mem_of_getElem? (i := 1429) (by decide +kernel), List.mem_of_getElem? (i := 1983) (by decide +kernel), List.mem_of_getElem? (i := 1984) (by decide +kernel)⟩
theorem lw_p77 : lw_okq (⟨"EngineShedModel", "goes", "(I)V"⟩, 120) := ⟨⟨by decide +kernel, by decide +kernel⟩, List.mem_of_getElem? (i := 1429) (by decide +kernel), List.mem_of_getElem? (i := 1987) (by decide +kernel), List.mem_of_getElem? (i := 1988) (by decide +kernel)⟩
theorem lw_p78 : lw_okq (⟨"EngineShedModel", "wakes", "(I)V"⟩, 120) := ⟨⟨by decide +kernel, by decide +kernel⟩, List.mem_of_getElem? (i := 1429) (by decide +kernel), List.mem_of_getElem? (i := 1991) (by decide +kernel), List.mem_of_getElem? (i := 1992) (by decide +kernel)⟩
theorem lw_p79 : lw_okq (⟨"EngineShedModel", "saves", "([II)V"⟩, 120) := ⟨⟨by decide +kernel, by decide +kernel⟩, List.mem_of_getElem? (i := 1429) (by decide +kernel), List.mem_of_getElem? (i := 1995) (by decide +kernel), List.mem_of_getElem? (i := 1996) (by decide +kernel)⟩
def lw_privs_5 : List (MethodName × Nat) := [(⟨"EngineShedModel", "expression", "()V"⟩, 120), (⟨"EngineShedModel", "unit", "()V"⟩, 120), (⟨"EngineShedModel", "emit", "(II)V"⟩, 120), (⟨"EngineShedModel", "comesOut", "(Z)V"⟩, 120), (⟨"EngineShedModel", "literal", "(Z)V"⟩, 120), (⟨"EngineShedModel", "changed", "()V"⟩, 120), (⟨"EngineShedModel", "forces", "(I)V"⟩, 120), (⟨"EngineShedModel", "comes", "(I)V"⟩, 120), (⟨"EngineShedModel", "isShed", "(I)Z"⟩, 120), (⟨"EngineShedModel", "isEngine", "(I)Z"⟩, 120), (⟨"EngineShedModel", "isTurn", "(I)Z"⟩, 120), (⟨"EngineShedModel", "tellsFact", "(IIIII)I"⟩, 120), (⟨"EngineShedModel", "isKnown", "(I)Z"⟩, 120), (⟨"EngineShedModel", "goes", "(I)V"⟩, 120), (⟨"EngineShedModel", "wakes", "(I)V"⟩, 120), (⟨"EngineShedModel", "saves", "([II)V"⟩, 120)]
theorem lw_r5 : ∀ q ∈ lw_privs_5, lw_okq q := List.forall_mem_cons.mpr ⟨lw_p64, List.forall_mem_cons.mpr ⟨lw_p65, List.forall_mem_cons.mpr ⟨lw_p66, List.forall_mem_cons.mpr ⟨lw_p67, List.forall_mem_cons.mpr ⟨lw_p68, List.forall_mem_cons.mpr ⟨lw_p69, List.forall_mem_cons.mpr ⟨lw_p70, List.forall_mem_cons.mpr ⟨lw_p71, List.forall_mem_cons.mpr ⟨lw_p72, List.forall_mem_cons.mpr ⟨lw_p73, List.forall_mem_cons.mpr ⟨lw_p74, List.forall_mem_cons.mpr ⟨lw_p75, List.forall_mem_cons.mpr ⟨lw_p76, List.forall_mem_cons.mpr ⟨lw_p77, List.forall_mem_cons.mpr ⟨lw_p78, List.forall_mem_cons.mpr ⟨lw_p79, fun _ h => absurd h List.not_mem_nil⟩⟩⟩⟩⟩⟩⟩⟩⟩⟩⟩⟩⟩⟩⟩⟩
theorem lw_p80 : lw_okq (⟨"EngineShedModel", "stands", "(II)V"⟩, 120) := ⟨⟨by decide +kernel, by decide +kernel⟩, List.mem_of_getElem? (i := 1429) (by decide +kernel), List.mem_of_getElem? (i := 1999) (by decide +kernel), List.mem_of_getElem? (i := 2000) (by decide +kernel)⟩
theorem lw_p81 : lw_okq (⟨"EngineShedModel", "fills", "(IIIIIII)V"⟩, 120) := ⟨⟨by decide +kernel, by decide +kernel⟩, List.mem_of_getElem? (i := 1429) (by decide +kernel), List.mem_of_getElem? (i := 2003) (by decide +kernel), List.mem_of_getElem? (i := 2004) (by decide +kernel)⟩
theorem lw_p82 : lw_okq (⟨"EngineShedModel", "first", "(I)I"⟩, 120) := ⟨⟨by decide +kernel, by decide +kernel⟩, List.mem_of_getElem? (i := 1429) (by decide +kernel), List.mem_of_getElem? (i := 2007) (by decide +kernel), List.mem_of_getElem? (i := 2008) (by decide +kernel)⟩
theorem lw_p83 : lw_okq (⟨"EngineShedModel", "holds", "(I)Z"⟩, 120) := ⟨⟨by decide +kernel, by decide +kernel⟩, List.mem_of_getElem? (i := 1429) (by decide +kernel), List.mem_of_getElem? (i := 2011) (by decide +kernel), List.mem_of_getElem? (i := 2012) (by decide +kernel)⟩
theorem lw_p84 : lw_okq (⟨"EngineShedModel", "isTrue", "(I)Z"⟩, 120) := ⟨⟨by decide +kernel, by decide +kernel⟩, List.mem_of_getElem? (i := 1429) (by decide +kernel), List.mem_of_getElem? (i := 2015) (by decide +kernel), List.mem_of_getElem? (i := 2016) (by decide +kernel)⟩
theorem lw_p85 : lw_okq (⟨"EngineShedModel", "termOf", "(II)I"⟩, 120) := ⟨⟨by decide +kernel, by decide +kernel⟩, List.mem_of_getElem? (i := 1429) (by decide +kernel), List.mem_of_getElem? (i := 2019) (by decide +kernel), List.mem_of_getElem? (i := 2020) (by decide +kernel)⟩
theorem lw_p86 : lw_okq (⟨"EngineShedModel", "happens", "(II)V"⟩, 120) := ⟨⟨by decide +kernel, by decide +kernel⟩, List.mem_of_getElem? (i := 1429) (by decide +kernel), List.mem_of_getElem? (i := 2023) (by decide +kernel), List.mem_of_getElem? (i := 2024) (by decide +kernel)⟩
theorem lw_p87 : lw_okq (⟨"EngineShedModel", "breaksDown", "(I)V"⟩, 120) := ⟨⟨by decide +kernel, by decide +kernel⟩, List.mem_of_getElem? (i := 1429) (by decide +kernel), List.mem_of_getElem? (i := 2027) (by decide +kernel), List.mem_of_getElem? (i := 2028) (by decide +kernel)⟩
theorem lw_p88 : lw_okq (⟨"EngineShedModel", "goesOut", "(II)V"⟩, 120) := ⟨⟨by decide +kernel, by decide +kernel⟩, List.mem_of_getElem? (i := 1429) (by decide +kernel), List.mem_of_getElem? (i := 2031) (by decide +kernel), List.mem_of_getElem? (i := 2032) (by decide +kernel)⟩
theorem lw_p89 : lw_okq (⟨"EngineShedModel", "asks", "(I)V"⟩, 120) := ⟨⟨by decide +kernel, by decide +kernel⟩, List.mem_of_getElem? (i := 1429) (by decide +kernel), List.mem_of_getElem? (i := 2038) (by decide +kernel), List.mem_of_getElem? (i := 2039) (by decide +kernel)⟩
theorem lw_p90 : lw_okq (⟨"EngineShedModel", "milesOf", "(II)I"⟩, 120) := ⟨⟨by decide +kernel, by decide +kernel⟩, List.mem_of_getElem? (i := 1429) (by decide +kernel), List.mem_of_getElem? (i := 2042) (by decide +kernel), List.mem_of_getElem? (i := 2043) (by decide +kernel)⟩
theorem lw_p91 : lw_okq (⟨"EngineShedModel", "tells", "(II)I"⟩, 120) := ⟨⟨by decide +kernel, by decide +kernel⟩, List.mem_of_getElem? (i := 1429) (by decide +kernel), List.mem_of_getElem? (i := 2046) (by decide +kernel), List.mem_of_getElem? (i := 2047) (by decide +kernel)⟩
theorem lw_p92 : lw_okq (⟨"EngineShedModel", "isRun", "(II)Z"⟩, 120) := ⟨⟨by decide +kernel, by decide +kernel⟩, List.mem_of_getElem? (i := 1429) (by decide +kernel), List.mem_of_getElem? (i := 2054) (by decide +kernel), List.mem_of_getElem? (i := 2055) (by decide +kernel)⟩
theorem lw_p93 : lw_okq (⟨"EngineShedModel", "prices", "(I)V"⟩, 120) := ⟨⟨by decide +kernel, by decide +kernel⟩, List.mem_of_getElem? (i := 1429) (by decide +kernel), List.mem_of_getElem? (i := 2094) (by decide +kernel), List.mem_of_getElem? (i := 2095) (by decide +kernel)⟩
theorem lw_p94 : lw_okq (⟨"EngineShedModel", "lacks", "()V"⟩, 120) := ⟨⟨by decide +kernel, by decide +kernel⟩, List.mem_of_getElem? (i := 1429) (by decide +kernel), List.mem_of_getElem? (i := 2099) (by decide +kernel), List.mem_of_getElem? (i := 2100) (by decide +kernel)⟩
theorem lw_p95 : lw_okq (⟨"EngineShedModel", "outAt", "(I)I"⟩, 120) := ⟨⟨by decide +kernel, by decide +kernel⟩, List.mem_of_getElem? (i := 1429) (by decide +kernel), List.mem_of_getElem? (i := 2123) (by decide +kernel), List.mem_of_getElem? (i := 2124) (by decide +kernel)⟩
def lw_privs_6 : List (MethodName × Nat) := [(⟨"EngineShedModel", "stands", "(II)V"⟩, 120), (⟨"EngineShedModel", "fills", "(IIIIIII)V"⟩, 120), (⟨"EngineShedModel", "first", "(I)I"⟩, 120), (⟨"EngineShedModel", "holds", "(I)Z"⟩, 120), (⟨"EngineShedModel", "isTrue", "(I)Z"⟩, 120), (⟨"EngineShedModel", "termOf", "(II)I"⟩, 120), (⟨"EngineShedModel", "happens", "(II)V"⟩, 120), (⟨"EngineShedModel", "breaksDown", "(I)V"⟩, 120), (⟨"EngineShedModel", "goesOut", "(II)V"⟩, 120), (⟨"EngineShedModel", "asks", "(I)V"⟩, 120), (⟨"EngineShedModel", "milesOf", "(II)I"⟩, 120), (⟨"EngineShedModel", "tells", "(II)I"⟩, 120), (⟨"EngineShedModel", "isRun", "(II)Z"⟩, 120), (⟨"EngineShedModel", "prices", "(I)V"⟩, 120), (⟨"EngineShedModel", "lacks", "()V"⟩, 120), (⟨"EngineShedModel", "outAt", "(I)I"⟩, 120)]
theorem lw_r6 : ∀ q ∈ lw_privs_6, lw_okq q := List.forall_mem_cons.mpr ⟨lw_p80, List.forall_mem_cons.mpr ⟨lw_p81, List.forall_mem_cons.mpr ⟨lw_p82, List.forall_mem_cons.mpr ⟨lw_p83, List.forall_mem_cons.mpr ⟨lw_p84, List.forall_mem_cons.mpr ⟨lw_p85, List.forall_mem_cons.mpr ⟨lw_p86, List.forall_mem_cons.mpr ⟨lw_p87, List.forall_mem_cons.mpr ⟨lw_p88, List.forall_mem_cons.mpr ⟨lw_p89, List.forall_mem_cons.mpr ⟨lw_p90, List.forall_mem_cons.mpr ⟨lw_p91, List.forall_mem_cons.mpr ⟨lw_p92, List.forall_mem_cons.mpr ⟨lw_p93, List.forall_mem_cons.mpr ⟨lw_p94, List.forall_mem_cons.mpr ⟨lw_p95, fun _ h => absurd h List.not_mem_nil⟩⟩⟩⟩⟩⟩⟩⟩⟩⟩⟩⟩⟩⟩⟩⟩
theorem lw_p96 : lw_okq (⟨"EngineShedModel", "isInTheWay", "(I)Z"⟩, 120) := ⟨⟨by decide +kernel, by decide +kernel⟩, List.mem_of_getElem? (i := 1429) (by decide +kernel), List.mem_of_getElem? (i := 2127) (by decide +kernel), List.mem_of_getElem? (i := 2128) (by decide +kernel)⟩
theorem lw_p97 : lw_okq (⟨"EngineShedModel", "holdsOut", "(III)Z"⟩, 120) := ⟨⟨by decide +kernel, by decide +kernel⟩, List.mem_of_getElem? (i := 1429) (by decide +kernel), List.mem_of_getElem? (i := 2143) (by decide +kernel), List.mem_of_getElem? (i := 2144) (by decide +kernel)⟩
theorem lw_p98 : lw_okq (⟨"EngineShedModel", "has", "(II)Z"⟩, 120) := ⟨⟨by decide +kernel, by decide +kernel⟩, List.mem_of_getElem? (i := 1429) (by decide +kernel), List.mem_of_getElem? (i := 2147) (by decide +kernel), List.mem_of_getElem? (i := 2148) (by decide +kernel)⟩
theorem lw_p99 : lw_okq (⟨"EngineShedModel", "isGood", "(II)Z"⟩, 120) := ⟨⟨by decide +kernel, by decide +kernel⟩, List.mem_of_getElem? (i := 1429) (by decide +kernel), List.mem_of_getElem? (i := 2151) (by decide +kernel), List.mem_of_getElem? (i := 2152) (by decide +kernel)⟩
theorem lw_p100 : lw_okq (⟨"EngineShedModel", "causesOf", "(II)I"⟩, 120) := ⟨⟨by decide +kernel, by decide +kernel⟩, List.mem_of_getElem? (i := 1429) (by decide +kernel), List.mem_of_getElem? (i := 2163) (by decide +kernel), List.mem_of_getElem? (i := 2164) (by decide +kernel)⟩
theorem lw_p101 : lw_okq (⟨"EngineShedModel", "hits", "(I)Z"⟩, 120) := ⟨⟨by decide +kernel, by decide +kernel⟩, List.mem_of_getElem? (i := 1429) (by decide +kernel), List.mem_of_getElem? (i := 2167) (by decide +kernel), List.mem_of_getElem? (i := 2168) (by decide +kernel)⟩
def lw_privs_7 : List (MethodName × Nat) := [(⟨"EngineShedModel", "isInTheWay", "(I)Z"⟩, 120), (⟨"EngineShedModel", "holdsOut", "(III)Z"⟩, 120), (⟨"EngineShedModel", "has", "(II)Z"⟩, 120), (⟨"EngineShedModel", "isGood", "(II)Z"⟩, 120), (⟨"EngineShedModel", "causesOf", "(II)I"⟩, 120), (⟨"EngineShedModel", "hits", "(I)Z"⟩, 120)]
theorem lw_r7 : ∀ q ∈ lw_privs_7, lw_okq q := List.forall_mem_cons.mpr ⟨lw_p96, List.forall_mem_cons.mpr ⟨lw_p97, List.forall_mem_cons.mpr ⟨lw_p98, List.forall_mem_cons.mpr ⟨lw_p99, List.forall_mem_cons.mpr ⟨lw_p100, List.forall_mem_cons.mpr ⟨lw_p101, fun _ h => absurd h List.not_mem_nil⟩⟩⟩⟩⟩⟩
def lw_privs : List (MethodName × Nat) := lw_privs_1 ++ (lw_privs_2 ++ (lw_privs_3 ++ (lw_privs_4 ++ (lw_privs_5 ++ (lw_privs_6 ++ (lw_privs_7))))))
def lw_tbl : List Cond := k2_sels lw_privs ++ tables_1
theorem lw_privs_ok : ∀ q ∈ lw_privs, lw_okq q := by
  show ∀ q ∈ lw_privs_1 ++ (lw_privs_2 ++ (lw_privs_3 ++ (lw_privs_4 ++ (lw_privs_5 ++ (lw_privs_6 ++ (lw_privs_7)))))), lw_okq q
  exact List.forall_mem_append.mpr ⟨lw_r1, List.forall_mem_append.mpr ⟨lw_r2, List.forall_mem_append.mpr ⟨lw_r3, List.forall_mem_append.mpr ⟨lw_r4, List.forall_mem_append.mpr ⟨lw_r5, List.forall_mem_append.mpr ⟨lw_r6, lw_r7⟩⟩⟩⟩⟩⟩
/-! ===== BEGIN words of one list among another's, by their places ===== -/
theorem goodIn_r {big : List Cond} (ws : List Cond) (ps : List Nat) (hp : ws = ps.filterMap (fun i => big[i]?)) (h : ws.all goodWord = true) : GoodIn big ws := by
  intro w hw
  have h1 := List.all_eq_true.mp h w hw
  rw [hp] at hw
  obtain ⟨i, -, hi⟩ := List.mem_filterMap.mp hw
  have hm : w ∈ big := by first | exact List.mem_of_getElem? hi | exact List.getElem?_mem hi
  exact ⟨hm, good_of_word h1⟩
theorem goodIn_app {big a b : List Cond} (ha : GoodIn big a) (hb : GoodIn big b) : GoodIn big (a ++ b) := fun w h => (List.mem_append.mp h).elim (ha w) (hb w)
theorem goodIn_ca {big a b : List Cond} {c : Cond} (ha : GoodIn big (c :: a)) (hb : GoodIn big b) : GoodIn big (c :: (a ++ b)) := fun w h => (List.mem_cons.mp h).elim (fun e => ha w (List.mem_cons.mpr (Or.inl e))) (fun h => (List.mem_append.mp h).elim (fun h => ha w (List.mem_cons.mpr (Or.inr h))) (hb w))
theorem goodIn_sub {big ws : List Cond} (hm : ∀ w ∈ ws, w ∈ big) (h : ws.all goodWord = true) : GoodIn big ws := fun w hw => ⟨hm w hw, good_of_word (List.all_eq_true.mp h w hw)⟩
/-! ===== END ===== -/

/-! ===== BEGIN printed: names, fields, word lists, decode rows ===== -/
def RX0 : String := "EngineShed$Blame"
def TX0 : u_T := fun k => match k with
  | 0 => ("EngineShed$Blame", "picked", "I", false)
  | 1 => ("EngineShed$Blame", "own", "[I", true)
  | 2 => ("EngineShed$Blame", "many", "I", false)
  | 3 => ("EngineShed$Blame", "seen", "I", false)
  | 4 => ("EngineShed$Blame", "wanted", "I", false)
  | _ => ("EngineShed$Blame", "count", "I", false)
def tyX0 : Nat → FieldType := fun k => match k with
  | 0 => .int
  | 1 => .array .int
  | 2 => .int
  | 3 => .int
  | 4 => .int
  | _ => .int
abbrev wsX00 : List Cond := u_ws RX0 TX0 6
theorem nmX0 : ∀ a, a < 6 → ∀ b, b < 6 → a ≠ b → (TX0 a).2.1 ≠ (TX0 b).2.1 := by decide +kernel
theorem tyX0_ok : ∀ k, k < 6 → parseFieldDescriptor (TX0 k).2.2.1 = some (tyX0 k) := by decide +kernel
abbrev cX0_init : ByteArray := prog_2_method_1_code
def yX0_init : MethodName := ⟨RX0, "<init>", "()V"⟩
abbrev cX0_gather : ByteArray := prog_2_method_2_code
def yX0_gather : MethodName := ⟨RX0, "gather", "(LEngineShed$Board;I)V"⟩
abbrev cX0_note : ByteArray := prog_2_method_3_code
def yX0_note : MethodName := ⟨RX0, "note", "(I)V"⟩
abbrev cX0_search : ByteArray := prog_2_method_4_code
def yX0_search : MethodName := ⟨RX0, "search", "(I)I"⟩
abbrev cX0_pick : ByteArray := prog_2_method_5_code
def yX0_pick : MethodName := ⟨RX0, "pick", "(III)V"⟩
abbrev cX0_hitsAll : ByteArray := prog_2_method_6_code
def yX0_hitsAll : MethodName := ⟨RX0, "hitsAll", "(I)Z"⟩
def RX1 : String := "EngineShed$Board"
def TX1 : u_T := fun k => match k with
  | 0 => ("EngineShed$Board", "sheds", "I", false)
  | 1 => ("EngineShed$Board", "ways", "[I", true)
  | 2 => ("EngineShed$Board", "engines", "[LEngineShed$Engine;", true)
  | 3 => ("EngineShed$Board", "engineCount", "I", false)
  | 4 => ("EngineShed$Board", "knows", "[I", true)
  | 5 => ("EngineShed$Board", "men", "I", false)
  | 6 => ("EngineShed$Board", "turns", "[LEngineShed$Turn;", true)
  | 7 => ("EngineShed$Board", "turnCount", "I", false)
  | 8 => ("EngineShed$Board", "facts", "[LEngineShed$Fact;", true)
  | 9 => ("EngineShed$Board", "factCount", "I", false)
  | 10 => ("EngineShed$Board", "book", "LEngineShed$Book;", true)
  | 11 => ("EngineShed$Board", "order", "[I", true)
  | 12 => ("EngineShed$Board", "ordered", "I", false)
  | 13 => ("EngineShed$Board", "noted", "[I", true)
  | 14 => ("EngineShed$Board", "hours", "[I", true)
  | 15 => ("EngineShed$Board", "ranTurns", "I", false)
  | 16 => ("EngineShed$Board", "today", "I", false)
  | 17 => ("EngineShed$Board", "settledBy", "I", false)
  | 18 => ("EngineShed$Board", "settledThrough", "I", false)
  | _ => ("EngineShed$Board", "settledDawn", "I", false)
def tyX1 : Nat → FieldType := fun k => match k with
  | 0 => .int
  | 1 => .array .int
  | 2 => .array (.object "EngineShed$Engine")
  | 3 => .int
  | 4 => .array .int
  | 5 => .int
  | 6 => .array (.object "EngineShed$Turn")
  | 7 => .int
  | 8 => .array (.object "EngineShed$Fact")
  | 9 => .int
  | 10 => .object "EngineShed$Book"
  | 11 => .array .int
  | 12 => .int
  | 13 => .array .int
  | 14 => .array .int
  | 15 => .int
  | 16 => .int
  | 17 => .int
  | 18 => .int
  | _ => .int
abbrev wsX10 : List Cond := u_ws RX1 TX1 20
theorem nmX1 : ∀ a, a < 20 → ∀ b, b < 20 → a ≠ b → (TX1 a).2.1 ≠ (TX1 b).2.1 := by decide +kernel
theorem tyX1_ok : ∀ k, k < 20 → parseFieldDescriptor (TX1 k).2.2.1 = some (tyX1 k) := by decide +kernel
abbrev cX1_init : ByteArray := prog_3_method_1_code
def yX1_init : MethodName := ⟨RX1, "<init>", "(LEngineShed$Book;)V"⟩
abbrev cX1_isShed : ByteArray := prog_3_method_2_code
def yX1_isShed : MethodName := ⟨RX1, "isShed", "(I)Z"⟩
abbrev cX1_isEngine : ByteArray := prog_3_method_3_code
def yX1_isEngine : MethodName := ⟨RX1, "isEngine", "(I)Z"⟩
abbrev cX1_areEngines : ByteArray := prog_3_method_4_code
def yX1_areEngines : MethodName := ⟨RX1, "areEngines", "(I)Z"⟩
abbrev cX1_isMan : ByteArray := prog_3_method_5_code
def yX1_isMan : MethodName := ⟨RX1, "isMan", "(I)Z"⟩
abbrev cX1_isTurn : ByteArray := prog_3_method_6_code
def yX1_isTurn : MethodName := ⟨RX1, "isTurn", "(I)Z"⟩
abbrev cX1_areTurns : ByteArray := prog_3_method_7_code
def yX1_areTurns : MethodName := ⟨RX1, "areTurns", "(I)Z"⟩
abbrev cX1_isKnown : ByteArray := prog_3_method_8_code
def yX1_isKnown : MethodName := ⟨RX1, "isKnown", "(I)Z"⟩
abbrev cX1_takesFact : ByteArray := prog_3_method_9_code
def yX1_takesFact : MethodName := ⟨RX1, "takesFact", "(II)Z"⟩
abbrev cX1_addEngine : ByteArray := prog_3_method_10_code
def yX1_addEngine : MethodName := ⟨RX1, "addEngine", "(LEngineShed$Engine;)I"⟩
abbrev cX1_addTurn : ByteArray := prog_3_method_11_code
def yX1_addTurn : MethodName := ⟨RX1, "addTurn", "(LEngineShed$Turn;)I"⟩
abbrev cX1_addFact : ByteArray := prog_3_method_12_code
def yX1_addFact : MethodName := ⟨RX1, "addFact", "(LEngineShed$Fact;)I"⟩
abbrev cX1_forget : ByteArray := prog_3_method_13_code
def yX1_forget : MethodName := ⟨RX1, "forget", "()V"⟩
abbrev cX1_factOf : ByteArray := prog_3_method_14_code
def yX1_factOf : MethodName := ⟨RX1, "factOf", "(III)LEngineShed$Fact;"⟩
abbrev cX1_settle : ByteArray := prog_3_method_15_code
def yX1_settle : MethodName := ⟨RX1, "settle", "(III)V"⟩
abbrev cX1_startAnew : ByteArray := prog_3_method_16_code
def yX1_startAnew : MethodName := ⟨RX1, "startAnew", "(I)V"⟩
abbrev cX1_openDay : ByteArray := prog_3_method_17_code
def yX1_openDay : MethodName := ⟨RX1, "openDay", "(LEngineShed$Fact;)V"⟩
abbrev cX1_step : ByteArray := prog_3_method_18_code
def yX1_step : MethodName := ⟨RX1, "step", "(LEngineShed$Fact;)V"⟩
abbrev cX1_stepRun : ByteArray := prog_3_method_19_code
def yX1_stepRun : MethodName := ⟨RX1, "stepRun", "(LEngineShed$Fact;LEngineShed$Engine;)V"⟩
abbrev cX1_whyNotEngine : ByteArray := prog_3_method_20_code
def yX1_whyNotEngine : MethodName := ⟨RX1, "whyNotEngine", "(LEngineShed$Engine;LEngineShed$Turn;)I"⟩
abbrev cX1_whyNotMan : ByteArray := prog_3_method_21_code
def yX1_whyNotMan : MethodName := ⟨RX1, "whyNotMan", "(LEngineShed$Fact;LEngineShed$Turn;)I"⟩
abbrev cX1_stepFails : ByteArray := prog_3_method_22_code
def yX1_stepFails : MethodName := ⟨RX1, "stepFails", "(LEngineShed$Fact;LEngineShed$Engine;)V"⟩
abbrev cX1_isDue : ByteArray := prog_3_method_23_code
def yX1_isDue : MethodName := ⟨RX1, "isDue", "(LEngineShed$Engine;I)Z"⟩
abbrev cX1_countBeyond : ByteArray := prog_3_method_24_code
def yX1_countBeyond : MethodName := ⟨RX1, "countBeyond", "(III)I"⟩
abbrev cX1_helper : ByteArray := prog_3_method_25_code
def yX1_helper : MethodName := ⟨RX1, "helper", "(LEngineShed$Fact;I)I"⟩
abbrev cX1_isSpareAt : ByteArray := prog_3_method_26_code
def yX1_isSpareAt : MethodName := ⟨RX1, "isSpareAt", "(LEngineShed$Fact;LEngineShed$Fact;)Z"⟩
abbrev cX1_coalLeft : ByteArray := prog_3_method_27_code
def yX1_coalLeft : MethodName := ⟨RX1, "coalLeft", "(III)I"⟩
abbrev cX1_countKept : ByteArray := prog_3_method_28_code
def yX1_countKept : MethodName := ⟨RX1, "countKept", "(III)I"⟩
abbrev cX1_noteReasons : ByteArray := prog_3_method_29_code
def yX1_noteReasons : MethodName := ⟨RX1, "noteReasons", "(I)V"⟩
abbrev cX1_firstTurned : ByteArray := prog_3_method_30_code
def yX1_firstTurned : MethodName := ⟨RX1, "firstTurned", "(I)I"⟩
def RX2 : String := "EngineShed$Book"
def TX2 : u_T := fun k => match k with
  | 0 => ("EngineShed$Book", "forceText", "[I", true)
  | 1 => ("EngineShed$Book", "forceRule", "[I", true)
  | 2 => ("EngineShed$Book", "inForce", "I", false)
  | 3 => ("EngineShed$Book", "many", "I", false)
  | 4 => ("EngineShed$Book", "texts", "[LEngineShed$Text;", true)
  | 5 => ("EngineShed$Book", "queue", "[I", true)
  | 6 => ("EngineShed$Book", "laid", "I", false)
  | 7 => ("EngineShed$Book", "vars", "[I", true)
  | 8 => ("EngineShed$Book", "stack", "[I", true)
  | 9 => ("EngineShed$Book", "top", "I", false)
  | _ => ("EngineShed$Book", "broken", "Z", false)
def tyX2 : Nat → FieldType := fun k => match k with
  | 0 => .array .int
  | 1 => .array .int
  | 2 => .int
  | 3 => .int
  | 4 => .array (.object "EngineShed$Text")
  | 5 => .array .int
  | 6 => .int
  | 7 => .array .int
  | 8 => .array .int
  | 9 => .int
  | _ => .boolean
abbrev wsX20 : List Cond := u_ws RX2 TX2 11
theorem nmX2 : ∀ a, a < 11 → ∀ b, b < 11 → a ≠ b → (TX2 a).2.1 ≠ (TX2 b).2.1 := by decide +kernel
theorem tyX2_ok : ∀ k, k < 11 → parseFieldDescriptor (TX2 k).2.2.1 = some (tyX2 k) := by decide +kernel
abbrev cX2_init : ByteArray := prog_4_method_1_code
def yX2_init : MethodName := ⟨RX2, "<init>", "()V"⟩
abbrev cX2_add : ByteArray := prog_4_method_2_code
def yX2_add : MethodName := ⟨RX2, "add", "(LEngineShed$Text;)V"⟩
abbrev cX2_openAt : ByteArray := prog_4_method_3_code
def yX2_openAt : MethodName := ⟨RX2, "openAt", "(I)V"⟩
abbrev cX2_layText : ByteArray := prog_4_method_4_code
def yX2_layText : MethodName := ⟨RX2, "layText", "(I)V"⟩
abbrev cX2_find : ByteArray := prog_4_method_5_code
def yX2_find : MethodName := ⟨RX2, "find", "(J)I"⟩
abbrev cX2_strikeAt : ByteArray := prog_4_method_6_code
def yX2_strikeAt : MethodName := ⟨RX2, "strikeAt", "(I)V"⟩
abbrev cX2_sortOf : ByteArray := prog_4_method_7_code
def yX2_sortOf : MethodName := ⟨RX2, "sortOf", "(I)I"⟩
abbrev cX2_lookAt : ByteArray := prog_4_method_8_code
def yX2_lookAt : MethodName := ⟨RX2, "lookAt", "(LEngineShed$Engine;ILEngineShed$Turn;)V"⟩
abbrev cX2_firstHolding : ByteArray := prog_4_method_9_code
def yX2_firstHolding : MethodName := ⟨RX2, "firstHolding", "(I)I"⟩
abbrev cX2_amount : ByteArray := prog_4_method_10_code
def yX2_amount : MethodName := ⟨RX2, "amount", "(II)I"⟩
abbrev cX2_work : ByteArray := prog_4_method_11_code
def yX2_work : MethodName := ⟨RX2, "work", "(LEngineShed$Text;II)I"⟩
abbrev cX2_push : ByteArray := prog_4_method_12_code
def yX2_push : MethodName := ⟨RX2, "push", "(I)V"⟩
abbrev cX2_apply : ByteArray := prog_4_method_13_code
def yX2_apply : MethodName := ⟨RX2, "apply", "(I)V"⟩
abbrev cX2_combine : ByteArray := prog_4_method_14_code
def yX2_combine : MethodName := ⟨RX2, "combine", "(III)I"⟩
abbrev cX2_compareBoth : ByteArray := prog_4_method_15_code
def yX2_compareBoth : MethodName := ⟨RX2, "compareBoth", "(III)I"⟩
def RX3 : String := "EngineShed$Calendar"
def TX3 : u_T := fun k => match k with
  | 0 => ("EngineShed$Calendar", "barred", "[I", true)
  | 1 => ("EngineShed$Calendar", "chosen", "[I", true)
  | 2 => ("EngineShed$Calendar", "away", "[I", true)
  | 3 => ("EngineShed$Calendar", "many", "I", false)
  | 4 => ("EngineShed$Calendar", "able", "[I", true)
  | 5 => ("EngineShed$Calendar", "turns", "I", false)
  | 6 => ("EngineShed$Calendar", "united", "[I", true)
  | 7 => ("EngineShed$Calendar", "verdicts", "[I", true)
  | 8 => ("EngineShed$Calendar", "inMonth", "[I", true)
  | 9 => ("EngineShed$Calendar", "trial", "[I", true)
  | 10 => ("EngineShed$Calendar", "months", "I", false)
  | 11 => ("EngineShed$Calendar", "most", "I", false)
  | _ => ("EngineShed$Calendar", "failing", "I", false)
def tyX3 : Nat → FieldType := fun k => match k with
  | 0 => .array .int
  | 1 => .array .int
  | 2 => .array .int
  | 3 => .int
  | 4 => .array .int
  | 5 => .int
  | 6 => .array .int
  | 7 => .array .int
  | 8 => .array .int
  | 9 => .array .int
  | 10 => .int
  | 11 => .int
  | _ => .int
abbrev wsX30 : List Cond := u_ws RX3 TX3 13
theorem nmX3 : ∀ a, a < 13 → ∀ b, b < 13 → a ≠ b → (TX3 a).2.1 ≠ (TX3 b).2.1 := by decide +kernel
theorem tyX3_ok : ∀ k, k < 13 → parseFieldDescriptor (TX3 k).2.2.1 = some (tyX3 k) := by decide +kernel
abbrev cX3_init : ByteArray := prog_5_method_1_code
def yX3_init : MethodName := ⟨RX3, "<init>", "()V"⟩
abbrev cX3_ask : ByteArray := prog_5_method_2_code
def yX3_ask : MethodName := ⟨RX3, "ask", "(LEngineShed$Board;II)V"⟩
abbrev cX3_findAble : ByteArray := prog_5_method_3_code
def yX3_findAble : MethodName := ⟨RX3, "findAble", "(LEngineShed$Board;I)I"⟩
abbrev cX3_solve : ByteArray := prog_5_method_4_code
def yX3_solve : MethodName := ⟨RX3, "solve", "(III)Z"⟩
abbrev cX3_tryMonths : ByteArray := prog_5_method_5_code
def yX3_tryMonths : MethodName := ⟨RX3, "tryMonths", "(II)Z"⟩
abbrev cX3_isEnoughWithout : ByteArray := prog_5_method_6_code
def yX3_isEnoughWithout : MethodName := ⟨RX3, "isEnoughWithout", "(I)Z"⟩
abbrev cX3_tryWithout : ByteArray := prog_5_method_7_code
def yX3_tryWithout : MethodName := ⟨RX3, "tryWithout", "(I)Z"⟩
def RX4 : String := "EngineShed$Duties"
def TX4 : u_T := fun k => match k with
  | 0 => ("EngineShed$Duties", "chosen", "[I", true)
  | 1 => ("EngineShed$Duties", "lacking", "I", false)
  | 2 => ("EngineShed$Duties", "asked", "[I", true)
  | 3 => ("EngineShed$Duties", "many", "I", false)
  | 4 => ("EngineShed$Duties", "able", "[I", true)
  | 5 => ("EngineShed$Duties", "prices", "[I", true)
  | 6 => ("EngineShed$Duties", "united", "[I", true)
  | _ => ("EngineShed$Duties", "least", "[I", true)
def tyX4 : Nat → FieldType := fun k => match k with
  | 0 => .array .int
  | 1 => .int
  | 2 => .array .int
  | 3 => .int
  | 4 => .array .int
  | 5 => .array .int
  | 6 => .array .int
  | _ => .array .int
abbrev wsX40 : List Cond := u_ws RX4 TX4 8
theorem nmX4 : ∀ a, a < 8 → ∀ b, b < 8 → a ≠ b → (TX4 a).2.1 ≠ (TX4 b).2.1 := by decide +kernel
theorem tyX4_ok : ∀ k, k < 8 → parseFieldDescriptor (TX4 k).2.2.1 = some (tyX4 k) := by decide +kernel
abbrev cX4_init : ByteArray := prog_6_method_1_code
def yX4_init : MethodName := ⟨RX4, "<init>", "()V"⟩
abbrev cX4_ask : ByteArray := prog_6_method_2_code
def yX4_ask : MethodName := ⟨RX4, "ask", "(LEngineShed$Board;II)V"⟩
abbrev cX4_findAble : ByteArray := prog_6_method_3_code
def yX4_findAble : MethodName := ⟨RX4, "findAble", "(LEngineShed$Board;ILEngineShed$Turn;)I"⟩
abbrev cX4_solve : ByteArray := prog_6_method_4_code
def yX4_solve : MethodName := ⟨RX4, "solve", "(I)I"⟩
abbrev cX4_findLack : ByteArray := prog_6_method_5_code
def yX4_findLack : MethodName := ⟨RX4, "findLack", "()I"⟩
abbrev cX4_reckonLeast : ByteArray := prog_6_method_6_code
def yX4_reckonLeast : MethodName := ⟨RX4, "reckonLeast", "(I)V"⟩
abbrev cX4_priceWith : ByteArray := prog_6_method_7_code
def yX4_priceWith : MethodName := ⟨RX4, "priceWith", "(III)I"⟩
abbrev cX4_choose : ByteArray := prog_6_method_8_code
def yX4_choose : MethodName := ⟨RX4, "choose", "(I)V"⟩
def RX5 : String := "EngineShed$Engine"
def TX5 : u_T := fun k => match k with
  | 0 => ("EngineShed$Engine", "clas", "I", true)
  | 1 => ("EngineShed$Engine", "home", "I", true)
  | 2 => ("EngineShed$Engine", "at", "I", false)
  | 3 => ("EngineShed$Engine", "keeper", "I", false)
  | 4 => ("EngineShed$Engine", "failed", "Z", false)
  | 5 => ("EngineShed$Engine", "until", "I", false)
  | 6 => ("EngineShed$Engine", "miles", "I", false)
  | 7 => ("EngineShed$Engine", "worn", "I", false)
  | 8 => ("EngineShed$Engine", "washed", "I", false)
  | 9 => ("EngineShed$Engine", "looked", "I", false)
  | 10 => ("EngineShed$Engine", "day", "I", false)
  | 11 => ("EngineShed$Engine", "scrubbed", "Z", false)
  | 12 => ("EngineShed$Engine", "wasDue", "Z", false)
  | 13 => ("EngineShed$Engine", "ranTo", "I", false)
  | _ => ("EngineShed$Engine", "latest", "LEngineShed$Fact;", false)
def tyX5 : Nat → FieldType := fun k => match k with
  | 0 => .int
  | 1 => .int
  | 2 => .int
  | 3 => .int
  | 4 => .boolean
  | 5 => .int
  | 6 => .int
  | 7 => .int
  | 8 => .int
  | 9 => .int
  | 10 => .int
  | 11 => .boolean
  | 12 => .boolean
  | 13 => .int
  | _ => .object "EngineShed$Fact"
abbrev wsX50 : List Cond := u_ws RX5 TX5 15
theorem nmX5 : ∀ a, a < 15 → ∀ b, b < 15 → a ≠ b → (TX5 a).2.1 ≠ (TX5 b).2.1 := by decide +kernel
theorem tyX5_ok : ∀ k, k < 15 → parseFieldDescriptor (TX5 k).2.2.1 = some (tyX5 k) := by decide +kernel
abbrev cX5_init : ByteArray := prog_7_method_1_code
def yX5_init : MethodName := ⟨RX5, "<init>", "(II)V"⟩
abbrev cX5_startAnew : ByteArray := prog_7_method_2_code
def yX5_startAnew : MethodName := ⟨RX5, "startAnew", "()V"⟩
abbrev cX5_startDay : ByteArray := prog_7_method_3_code
def yX5_startDay : MethodName := ⟨RX5, "startDay", "(I)V"⟩
abbrev cX5_isInShops : ByteArray := prog_7_method_4_code
def yX5_isInShops : MethodName := ⟨RX5, "isInShops", "()Z"⟩
abbrev cX5_isSound : ByteArray := prog_7_method_5_code
def yX5_isSound : MethodName := ⟨RX5, "isSound", "()Z"⟩
abbrev cX5_wash : ByteArray := prog_7_method_6_code
def yX5_wash : MethodName := ⟨RX5, "wash", "()V"⟩
abbrev cX5_look : ByteArray := prog_7_method_7_code
def yX5_look : MethodName := ⟨RX5, "look", "()V"⟩
abbrev cX5_enterShops : ByteArray := prog_7_method_8_code
def yX5_enterShops : MethodName := ⟨RX5, "enterShops", "(I)V"⟩
abbrev cX5_lendTo : ByteArray := prog_7_method_9_code
def yX5_lendTo : MethodName := ⟨RX5, "lendTo", "(I)V"⟩
abbrev cX5_tell : ByteArray := prog_7_method_10_code
def yX5_tell : MethodName := ⟨RX5, "tell", "(II)I"⟩
def RX6 : String := "EngineShed$Fact"
def TX6 : u_T := fun k => match k with
  | 0 => ("EngineShed$Fact", "kind", "I", true)
  | 1 => ("EngineShed$Fact", "engine", "I", true)
  | 2 => ("EngineShed$Fact", "day", "I", true)
  | 3 => ("EngineShed$Fact", "turn", "I", false)
  | 4 => ("EngineShed$Fact", "man", "I", false)
  | 5 => ("EngineShed$Fact", "shed", "I", false)
  | 6 => ("EngineShed$Fact", "value", "I", false)
  | 7 => ("EngineShed$Fact", "of", "I", false)
  | 8 => ("EngineShed$Fact", "told", "I", false)
  | 9 => ("EngineShed$Fact", "reason", "I", false)
  | 10 => ("EngineShed$Fact", "barred", "I", false)
  | 11 => ("EngineShed$Fact", "miles", "I", false)
  | 12 => ("EngineShed$Fact", "wear", "I", false)
  | 13 => ("EngineShed$Fact", "coal", "I", false)
  | 14 => ("EngineShed$Fact", "ahead", "I", false)
  | 15 => ("EngineShed$Fact", "beyond", "Z", false)
  | 16 => ("EngineShed$Fact", "halved", "Z", false)
  | _ => ("EngineShed$Fact", "did", "Z", false)
def tyX6 : Nat → FieldType := fun k => match k with
  | 0 => .int
  | 1 => .int
  | 2 => .int
  | 3 => .int
  | 4 => .int
  | 5 => .int
  | 6 => .int
  | 7 => .int
  | 8 => .int
  | 9 => .int
  | 10 => .int
  | 11 => .int
  | 12 => .int
  | 13 => .int
  | 14 => .int
  | 15 => .boolean
  | 16 => .boolean
  | _ => .boolean
abbrev wsX60 : List Cond := u_ws RX6 TX6 18
theorem nmX6 : ∀ a, a < 18 → ∀ b, b < 18 → a ≠ b → (TX6 a).2.1 ≠ (TX6 b).2.1 := by decide +kernel
theorem tyX6_ok : ∀ k, k < 18 → parseFieldDescriptor (TX6 k).2.2.1 = some (tyX6 k) := by decide +kernel
abbrev cX6_init : ByteArray := prog_8_method_1_code
def yX6_init : MethodName := ⟨RX6, "<init>", "(III)V"⟩
abbrev cX6_tell : ByteArray := prog_8_method_2_code
def yX6_tell : MethodName := ⟨RX6, "tell", "(I)I"⟩
def RX7 : String := "EngineShed$Reader"
def TX7 : u_T := fun k => match k with
  | 0 => ("EngineShed$Reader", "tape", "[B", true)
  | 1 => ("EngineShed$Reader", "length", "I", false)
  | 2 => ("EngineShed$Reader", "faultPlace", "I", false)
  | 3 => ("EngineShed$Reader", "draft", "LEngineShed$Text;", false)
  | 4 => ("EngineShed$Reader", "waiting", "[I", true)
  | 5 => ("EngineShed$Reader", "waits", "I", false)
  | 6 => ("EngineShed$Reader", "at", "I", false)
  | 7 => ("EngineShed$Reader", "start", "I", false)
  | 8 => ("EngineShed$Reader", "kind", "I", false)
  | 9 => ("EngineShed$Reader", "value", "I", false)
  | 10 => ("EngineShed$Reader", "name", "J", false)
  | 11 => ("EngineShed$Reader", "tokens", "I", false)
  | 12 => ("EngineShed$Reader", "awaited", "I", false)
  | 13 => ("EngineShed$Reader", "part", "I", false)
  | 14 => ("EngineShed$Reader", "depth", "I", false)
  | _ => ("EngineShed$Reader", "dayPlace", "I", false)
def tyX7 : Nat → FieldType := fun k => match k with
  | 0 => .array .byte
  | 1 => .int
  | 2 => .int
  | 3 => .object "EngineShed$Text"
  | 4 => .array .int
  | 5 => .int
  | 6 => .int
  | 7 => .int
  | 8 => .int
  | 9 => .int
  | 10 => .long
  | 11 => .int
  | 12 => .int
  | 13 => .int
  | 14 => .int
  | _ => .int
abbrev wsX70 : List Cond := u_ws RX7 TX7 16
theorem nmX7 : ∀ a, a < 16 → ∀ b, b < 16 → a ≠ b → (TX7 a).2.1 ≠ (TX7 b).2.1 := by decide +kernel
theorem tyX7_ok : ∀ k, k < 16 → parseFieldDescriptor (TX7 k).2.2.1 = some (tyX7 k) := by decide +kernel
abbrev cX7_init : ByteArray := prog_9_method_1_code
def yX7_init : MethodName := ⟨RX7, "<init>", "()V"⟩
abbrev cX7_append : ByteArray := prog_9_method_2_code
def yX7_append : MethodName := ⟨RX7, "append", "(I)V"⟩
abbrev cX7_readTape : ByteArray := prog_9_method_3_code
def yX7_readTape : MethodName := ⟨RX7, "readTape", "()I"⟩
abbrev cX7_handOver : ByteArray := prog_9_method_4_code
def yX7_handOver : MethodName := ⟨RX7, "handOver", "()LEngineShed$Text;"⟩
abbrev cX7_begin : ByteArray := prog_9_method_5_code
def yX7_begin : MethodName := ⟨RX7, "begin", "()V"⟩
abbrev cX7_byteAt : ByteArray := prog_9_method_6_code
def yX7_byteAt : MethodName := ⟨RX7, "byteAt", "(I)I"⟩
abbrev cX7_isBlankAt : ByteArray := prog_9_method_7_code
def yX7_isBlankAt : MethodName := ⟨RX7, "isBlankAt", "(I)Z"⟩
abbrev cX7_isLetterAt : ByteArray := prog_9_method_8_code
def yX7_isLetterAt : MethodName := ⟨RX7, "isLetterAt", "(I)Z"⟩
abbrev cX7_isDigitAt : ByteArray := prog_9_method_9_code
def yX7_isDigitAt : MethodName := ⟨RX7, "isDigitAt", "(I)Z"⟩
abbrev cX7_nextToken : ByteArray := prog_9_method_10_code
def yX7_nextToken : MethodName := ⟨RX7, "nextToken", "()V"⟩
abbrev cX7_scanWord : ByteArray := prog_9_method_11_code
def yX7_scanWord : MethodName := ⟨RX7, "scanWord", "()V"⟩
abbrev cX7_kindOfLink : ByteArray := prog_9_method_12_code
def yX7_kindOfLink : MethodName := ⟨RX7, "kindOfLink", "()I"⟩
abbrev cX7_indexIn : ByteArray := prog_9_method_13_code
def yX7_indexIn : MethodName := ⟨RX7, "indexIn", "(Ljava/lang/String;)I"⟩
abbrev cX7_scanInt : ByteArray := prog_9_method_14_code
def yX7_scanInt : MethodName := ⟨RX7, "scanInt", "()V"⟩
abbrev cX7_scanSign : ByteArray := prog_9_method_15_code
def yX7_scanSign : MethodName := ⟨RX7, "scanSign", "()V"⟩
abbrev cX7_judge : ByteArray := prog_9_method_16_code
def yX7_judge : MethodName := ⟨RX7, "judge", "()I"⟩
abbrev cX7_goesOn : ByteArray := prog_9_method_17_code
def yX7_goesOn : MethodName := ⟨RX7, "goesOn", "()Z"⟩
abbrev cX7_goesOnBehindUnit : ByteArray := prog_9_method_18_code
def yX7_goesOnBehindUnit : MethodName := ⟨RX7, "goesOnBehindUnit", "()Z"⟩
abbrev cX7_take : ByteArray := prog_9_method_19_code
def yX7_take : MethodName := ⟨RX7, "take", "()V"⟩
abbrev cX7_takeFirst : ByteArray := prog_9_method_20_code
def yX7_takeFirst : MethodName := ⟨RX7, "takeFirst", "()V"⟩
abbrev cX7_takeName : ByteArray := prog_9_method_21_code
def yX7_takeName : MethodName := ⟨RX7, "takeName", "()V"⟩
abbrev cX7_awaitLiteral : ByteArray := prog_9_method_22_code
def yX7_awaitLiteral : MethodName := ⟨RX7, "awaitLiteral", "()V"⟩
abbrev cX7_takeUnit : ByteArray := prog_9_method_23_code
def yX7_takeUnit : MethodName := ⟨RX7, "takeUnit", "()V"⟩
abbrev cX7_takeBehindUnit : ByteArray := prog_9_method_24_code
def yX7_takeBehindUnit : MethodName := ⟨RX7, "takeBehindUnit", "()V"⟩
abbrev cX7_takeRuleEnd : ByteArray := prog_9_method_25_code
def yX7_takeRuleEnd : MethodName := ⟨RX7, "takeRuleEnd", "()V"⟩
abbrev cX7_takeOperator : ByteArray := prog_9_method_26_code
def yX7_takeOperator : MethodName := ⟨RX7, "takeOperator", "()V"⟩
abbrev cX7_keepWaiting : ByteArray := prog_9_method_27_code
def yX7_keepWaiting : MethodName := ⟨RX7, "keepWaiting", "(I)V"⟩
abbrev cX7_emitDownTo : ByteArray := prog_9_method_28_code
def yX7_emitDownTo : MethodName := ⟨RX7, "emitDownTo", "(I)V"⟩
def RX8 : String := "EngineShed$Stabling"
def TX8 : u_T := fun k => match k with
  | 0 => ("EngineShed$Stabling", "ins", "I", false)
  | 1 => ("EngineShed$Stabling", "outs", "I", false)
  | 2 => ("EngineShed$Stabling", "chosen", "[I", true)
  | 3 => ("EngineShed$Stabling", "inRow", "[I", true)
  | 4 => ("EngineShed$Stabling", "outRow", "[I", true)
  | 5 => ("EngineShed$Stabling", "leaves", "[I", true)
  | 6 => ("EngineShed$Stabling", "trial", "[I", true)
  | 7 => ("EngineShed$Stabling", "found", "[I", true)
  | 8 => ("EngineShed$Stabling", "soonest", "[I", true)
  | 9 => ("EngineShed$Stabling", "many", "I", false)
  | _ => ("EngineShed$Stabling", "fewest", "I", false)
def tyX8 : Nat → FieldType := fun k => match k with
  | 0 => .int
  | 1 => .int
  | 2 => .array .int
  | 3 => .array .int
  | 4 => .array .int
  | 5 => .array .int
  | 6 => .array .int
  | 7 => .array .int
  | 8 => .array .int
  | 9 => .int
  | _ => .int
abbrev wsX80 : List Cond := u_ws RX8 TX8 11
theorem nmX8 : ∀ a, a < 11 → ∀ b, b < 11 → a ≠ b → (TX8 a).2.1 ≠ (TX8 b).2.1 := by decide +kernel
theorem tyX8_ok : ∀ k, k < 11 → parseFieldDescriptor (TX8 k).2.2.1 = some (tyX8 k) := by decide +kernel
abbrev cX8_init : ByteArray := prog_10_method_1_code
def yX8_init : MethodName := ⟨RX8, "<init>", "()V"⟩
abbrev cX8_join : ByteArray := prog_10_method_2_code
def yX8_join : MethodName := ⟨RX8, "join", "(ZI)I"⟩
abbrev cX8_indexIn : ByteArray := prog_10_method_3_code
def yX8_indexIn : MethodName := ⟨RX8, "indexIn", "([III)I"⟩
abbrev cX8_rank : ByteArray := prog_10_method_4_code
def yX8_rank : MethodName := ⟨RX8, "rank", "()Z"⟩
abbrev cX8_solve : ByteArray := prog_10_method_5_code
def yX8_solve : MethodName := ⟨RX8, "solve", "(I)I"⟩
abbrev cX8_tryRoads : ByteArray := prog_10_method_6_code
def yX8_tryRoads : MethodName := ⟨RX8, "tryRoads", "(III)V"⟩
def RX9 : String := "EngineShed$Text"
def TX9 : u_T := fun k => match k with
  | 0 => ("EngineShed$Text", "code", "[I", true)
  | 1 => ("EngineShed$Text", "names", "[J", true)
  | 2 => ("EngineShed$Text", "sorts", "[I", true)
  | 3 => ("EngineShed$Text", "values", "[I", true)
  | 4 => ("EngineShed$Text", "conditions", "[I", true)
  | 5 => ("EngineShed$Text", "ends", "[I", true)
  | 6 => ("EngineShed$Text", "codes", "I", false)
  | 7 => ("EngineShed$Text", "rules", "I", false)
  | _ => ("EngineShed$Text", "from", "I", false)
def tyX9 : Nat → FieldType := fun k => match k with
  | 0 => .array .int
  | 1 => .array .long
  | 2 => .array .int
  | 3 => .array .int
  | 4 => .array .int
  | 5 => .array .int
  | 6 => .int
  | 7 => .int
  | _ => .int
abbrev wsX90 : List Cond := u_ws RX9 TX9 9
theorem nmX9 : ∀ a, a < 9 → ∀ b, b < 9 → a ≠ b → (TX9 a).2.1 ≠ (TX9 b).2.1 := by decide +kernel
theorem tyX9_ok : ∀ k, k < 9 → parseFieldDescriptor (TX9 k).2.2.1 = some (tyX9 k) := by decide +kernel
abbrev cX9_init : ByteArray := prog_11_method_1_code
def yX9_init : MethodName := ⟨RX9, "<init>", "()V"⟩
abbrev cX9_empty : ByteArray := prog_11_method_2_code
def yX9_empty : MethodName := ⟨RX9, "empty", "()V"⟩
abbrev cX9_openRule : ByteArray := prog_11_method_3_code
def yX9_openRule : MethodName := ⟨RX9, "openRule", "(I)V"⟩
abbrev cX9_nameRule : ByteArray := prog_11_method_4_code
def yX9_nameRule : MethodName := ⟨RX9, "nameRule", "(J)V"⟩
abbrev cX9_openCondition : ByteArray := prog_11_method_5_code
def yX9_openCondition : MethodName := ⟨RX9, "openCondition", "()V"⟩
abbrev cX9_closeRule : ByteArray := prog_11_method_6_code
def yX9_closeRule : MethodName := ⟨RX9, "closeRule", "()V"⟩
abbrev cX9_emit : ByteArray := prog_11_method_7_code
def yX9_emit : MethodName := ⟨RX9, "emit", "(I)V"⟩
abbrev cX9_sortOfLatest : ByteArray := prog_11_method_8_code
def yX9_sortOfLatest : MethodName := ⟨RX9, "sortOfLatest", "()I"⟩
def RX10 : String := "EngineShed$Turn"
def TX10 : u_T := fun k => match k with
  | 0 => ("EngineShed$Turn", "from", "I", true)
  | 1 => ("EngineShed$Turn", "a", "I", true)
  | 2 => ("EngineShed$Turn", "b", "I", true)
  | 3 => ("EngineShed$Turn", "load", "I", true)
  | 4 => ("EngineShed$Turn", "line", "I", true)
  | 5 => ("EngineShed$Turn", "to", "I", false)
  | 6 => ("EngineShed$Turn", "miles", "I", false)
  | _ => ("EngineShed$Turn", "spare", "I", false)
def tyX10 : Nat → FieldType := fun k => match k with
  | 0 => .int
  | 1 => .int
  | 2 => .int
  | 3 => .int
  | 4 => .int
  | 5 => .int
  | 6 => .int
  | _ => .int
abbrev wsX100 : List Cond := u_ws RX10 TX10 8
theorem nmX10 : ∀ a, a < 8 → ∀ b, b < 8 → a ≠ b → (TX10 a).2.1 ≠ (TX10 b).2.1 := by decide +kernel
theorem tyX10_ok : ∀ k, k < 8 → parseFieldDescriptor (TX10 k).2.2.1 = some (tyX10 k) := by decide +kernel
abbrev cX10_init : ByteArray := prog_12_method_1_code
def yX10_init : MethodName := ⟨RX10, "<init>", "(IIIII)V"⟩
abbrev cX10_hourBits : ByteArray := prog_12_method_2_code
def yX10_hourBits : MethodName := ⟨RX10, "hourBits", "()I"⟩
def RX11 : String := "EngineShed"
def TX11 : u_T := fun k => match k with
  | 0 => ("EngineShed", "book", "LEngineShed$Book;", true)
  | 1 => ("EngineShed", "reader", "LEngineShed$Reader;", true)
  | 2 => ("EngineShed", "board", "LEngineShed$Board;", true)
  | 3 => ("EngineShed", "duties", "LEngineShed$Duties;", true)
  | 4 => ("EngineShed", "stabling", "LEngineShed$Stabling;", true)
  | 5 => ("EngineShed", "calendar", "LEngineShed$Calendar;", true)
  | _ => ("EngineShed", "blame", "LEngineShed$Blame;", true)
def tyX11 : Nat → FieldType := fun k => match k with
  | 0 => .object "EngineShed$Book"
  | 1 => .object "EngineShed$Reader"
  | 2 => .object "EngineShed$Board"
  | 3 => .object "EngineShed$Duties"
  | 4 => .object "EngineShed$Stabling"
  | 5 => .object "EngineShed$Calendar"
  | _ => .object "EngineShed$Blame"
abbrev wsX110 : List Cond := u_ws RX11 TX11 7
theorem nmX11 : ∀ a, a < 7 → ∀ b, b < 7 → a ≠ b → (TX11 a).2.1 ≠ (TX11 b).2.1 := by decide +kernel
theorem tyX11_ok : ∀ k, k < 7 → parseFieldDescriptor (TX11 k).2.2.1 = some (tyX11 k) := by decide +kernel
abbrev cX11_init : ByteArray := prog_1_method_1_code
def yX11_init : MethodName := ⟨RX11, "<init>", "()V"⟩
abbrev cX11_feed : ByteArray := prog_1_method_2_code
def yX11_feed : MethodName := ⟨RX11, "feed", "(IIIII)I"⟩
abbrev cX11_back : ByteArray := prog_1_method_3_code
def yX11_back : MethodName := ⟨RX11, "back", "(I)I"⟩
abbrev cX11_read : ByteArray := prog_1_method_4_code
def yX11_read : MethodName := ⟨RX11, "read", "()I"⟩
abbrev cX11_place : ByteArray := prog_1_method_5_code
def yX11_place : MethodName := ⟨RX11, "place", "()I"⟩
abbrev cX11_shed : ByteArray := prog_1_method_6_code
def yX11_shed : MethodName := ⟨RX11, "shed", "()I"⟩
abbrev cX11_way : ByteArray := prog_1_method_7_code
def yX11_way : MethodName := ⟨RX11, "way", "(III)Z"⟩
abbrev cX11_engine : ByteArray := prog_1_method_8_code
def yX11_engine : MethodName := ⟨RX11, "engine", "(II)I"⟩
abbrev cX11_man : ByteArray := prog_1_method_9_code
def yX11_man : MethodName := ⟨RX11, "man", "(I)I"⟩
abbrev cX11_turn : ByteArray := prog_1_method_10_code
def yX11_turn : MethodName := ⟨RX11, "turn", "(IIIIIIIZ)I"⟩
abbrev cX11_run : ByteArray := prog_1_method_11_code
def yX11_run : MethodName := ⟨RX11, "run", "(IIII)I"⟩
abbrev cX11_mile : ByteArray := prog_1_method_12_code
def yX11_mile : MethodName := ⟨RX11, "mile", "(II)I"⟩
abbrev cX11_fact : ByteArray := prog_1_method_13_code
def yX11_fact : MethodName := ⟨RX11, "fact", "(III)I"⟩
abbrev cX11_shops : ByteArray := prog_1_method_14_code
def yX11_shops : MethodName := ⟨RX11, "shops", "(III)I"⟩
abbrev cX11_fails : ByteArray := prog_1_method_15_code
def yX11_fails : MethodName := ⟨RX11, "fails", "(III)I"⟩
abbrev cX11_lent : ByteArray := prog_1_method_16_code
def yX11_lent : MethodName := ⟨RX11, "lent", "(III)I"⟩
abbrev cX11_coals : ByteArray := prog_1_method_17_code
def yX11_coals : MethodName := ⟨RX11, "coals", "(III)I"⟩
abbrev cX11_rules : ByteArray := prog_1_method_18_code
def yX11_rules : MethodName := ⟨RX11, "rules", "(I)I"⟩
abbrev cX11_rule : ByteArray := prog_1_method_19_code
def yX11_rule : MethodName := ⟨RX11, "rule", "(III)I"⟩
abbrev cX11_state : ByteArray := prog_1_method_20_code
def yX11_state : MethodName := ⟨RX11, "state", "(IIII)I"⟩
abbrev cX11_isVoid : ByteArray := prog_1_method_21_code
def yX11_isVoid : MethodName := ⟨RX11, "isVoid", "(II)I"⟩
abbrev cX11_held : ByteArray := prog_1_method_22_code
def yX11_held : MethodName := ⟨RX11, "held", "(III)I"⟩
abbrev cX11_bar : ByteArray := prog_1_method_23_code
def yX11_bar : MethodName := ⟨RX11, "bar", "(II)I"⟩
abbrev cX11_due : ByteArray := prog_1_method_24_code
def yX11_due : MethodName := ⟨RX11, "due", "(III)I"⟩
abbrev cX11_beyond : ByteArray := prog_1_method_25_code
def yX11_beyond : MethodName := ⟨RX11, "beyond", "(III)I"⟩
abbrev cX11_help : ByteArray := prog_1_method_26_code
def yX11_help : MethodName := ⟨RX11, "help", "(II)I"⟩
abbrev cX11_coal : ByteArray := prog_1_method_27_code
def yX11_coal : MethodName := ⟨RX11, "coal", "(III)I"⟩
abbrev cX11_owes : ByteArray := prog_1_method_28_code
def yX11_owes : MethodName := ⟨RX11, "owes", "(IIIII)I"⟩
abbrev cX11_best : ByteArray := prog_1_method_29_code
def yX11_best : MethodName := ⟨RX11, "best", "(III)I"⟩
abbrev cX11_given : ByteArray := prog_1_method_30_code
def yX11_given : MethodName := ⟨RX11, "given", "(I)I"⟩
abbrev cX11_lack : ByteArray := prog_1_method_31_code
def yX11_lack : MethodName := ⟨RX11, "lack", "()I"⟩
abbrev cX11_lines : ByteArray := prog_1_method_32_code
def yX11_lines : MethodName := ⟨RX11, "lines", "(ZI)I"⟩
abbrev cX11_clear : ByteArray := prog_1_method_33_code
def yX11_clear : MethodName := ⟨RX11, "clear", "()V"⟩
abbrev cX11_roads : ByteArray := prog_1_method_34_code
def yX11_roads : MethodName := ⟨RX11, "roads", "(I)I"⟩
abbrev cX11_road : ByteArray := prog_1_method_35_code
def yX11_road : MethodName := ⟨RX11, "road", "(I)I"⟩
abbrev cX11_may : ByteArray := prog_1_method_36_code
def yX11_may : MethodName := ⟨RX11, "may", "(IIZ)Z"⟩
abbrev cX11_months : ByteArray := prog_1_method_37_code
def yX11_months : MethodName := ⟨RX11, "months", "(IIIII)I"⟩
abbrev cX11_month : ByteArray := prog_1_method_38_code
def yX11_month : MethodName := ⟨RX11, "month", "(I)I"⟩
abbrev cX11_causes : ByteArray := prog_1_method_39_code
def yX11_causes : MethodName := ⟨RX11, "causes", "(I)I"⟩
abbrev cX11_cause : ByteArray := prog_1_method_40_code
def yX11_cause : MethodName := ⟨RX11, "cause", "(II)I"⟩
abbrev cX11_turned : ByteArray := prog_1_method_41_code
def yX11_turned : MethodName := ⟨RX11, "turned", "(II)I"⟩
abbrev cX11_count : ByteArray := prog_1_method_42_code
def yX11_count : MethodName := ⟨RX11, "count", "(I)I"⟩
abbrev cX11_addValued : ByteArray := prog_1_method_43_code
def yX11_addValued : MethodName := ⟨RX11, "addValued", "(IIIII)I"⟩
abbrev cX11_within : ByteArray := prog_1_method_44_code
def yX11_within : MethodName := ⟨RX11, "within", "(III)Z"⟩
abbrev cX11_isDay : ByteArray := prog_1_method_45_code
def yX11_isDay : MethodName := ⟨RX11, "isDay", "(I)Z"⟩
abbrev cX11_isClass : ByteArray := prog_1_method_46_code
def yX11_isClass : MethodName := ⟨RX11, "isClass", "(I)Z"⟩
abbrev cX11_uniteSets : ByteArray := prog_1_method_47_code
def yX11_uniteSets : MethodName := ⟨RX11, "uniteSets", "([II[I)V"⟩
abbrev cX11_isAhead : ByteArray := prog_1_method_48_code
def yX11_isAhead : MethodName := ⟨RX11, "isAhead", "(II)Z"⟩
def RX12 : String := "EngineShedModel"
def TX12 : u_T := fun k => match k with
  | 0 => ("EngineShedModel", "thrown", "I", false)
  | 1 => ("EngineShedModel", "tape", "[B", true)
  | 2 => ("EngineShedModel", "taped", "I", false)
  | 3 => ("EngineShedModel", "text", "[B", true)
  | 4 => ("EngineShedModel", "size", "I", false)
  | 5 => ("EngineShedModel", "tKind", "[I", true)
  | 6 => ("EngineShedModel", "tPlace", "[I", true)
  | 7 => ("EngineShedModel", "tValue", "[I", true)
  | 8 => ("EngineShedModel", "tName", "[J", true)
  | 9 => ("EngineShedModel", "keys", "[J", true)
  | 10 => ("EngineShedModel", "tokens", "I", false)
  | 11 => ("EngineShedModel", "t", "I", false)
  | 12 => ("EngineShedModel", "open", "I", false)
  | 13 => ("EngineShedModel", "fault", "I", false)
  | 14 => ("EngineShedModel", "faultPlace", "I", false)
  | 15 => ("EngineShedModel", "worst", "I", false)
  | 16 => ("EngineShedModel", "worstPlace", "I", false)
  | 17 => ("EngineShedModel", "place", "I", false)
  | 18 => ("EngineShedModel", "texts", "I", false)
  | 19 => ("EngineShedModel", "textFrom", "[I", true)
  | 20 => ("EngineShedModel", "textRules", "[I", true)
  | 21 => ("EngineShedModel", "ruleSort", "[I", true)
  | 22 => ("EngineShedModel", "ruleName", "[J", true)
  | 23 => ("EngineShedModel", "ruleFrom", "[I", true)
  | 24 => ("EngineShedModel", "ruleTo", "[I", true)
  | 25 => ("EngineShedModel", "litFirst", "[I", true)
  | 26 => ("EngineShedModel", "litLast", "[I", true)
  | 27 => ("EngineShedModel", "lits", "I", false)
  | 28 => ("EngineShedModel", "litSort", "[I", true)
  | 29 => ("EngineShedModel", "litNot", "[Z", true)
  | 30 => ("EngineShedModel", "litOr", "[Z", true)
  | 31 => ("EngineShedModel", "litLeft", "[I", true)
  | 32 => ("EngineShedModel", "litRight", "[I", true)
  | 33 => ("EngineShedModel", "litEnd", "[I", true)
  | 34 => ("EngineShedModel", "codes", "I", false)
  | 35 => ("EngineShedModel", "code", "[I", true)
  | 36 => ("EngineShedModel", "codeInt", "[I", true)
  | 37 => ("EngineShedModel", "waits", "[I", true)
  | 38 => ("EngineShedModel", "waiting", "I", false)
  | 39 => ("EngineShedModel", "variables", "[I", true)
  | 40 => ("EngineShedModel", "pile", "[I", true)
  | 41 => ("EngineShedModel", "isBroken", "Z", false)
  | 42 => ("EngineShedModel", "forceDay", "I", false)
  | 43 => ("EngineShedModel", "forceMany", "I", false)
  | 44 => ("EngineShedModel", "force", "[I", true)
  | 45 => ("EngineShedModel", "sheds", "I", false)
  | 46 => ("EngineShedModel", "ways", "[I", true)
  | 47 => ("EngineShedModel", "engines", "I", false)
  | 48 => ("EngineShedModel", "clas", "[I", true)
  | 49 => ("EngineShedModel", "home", "[I", true)
  | 50 => ("EngineShedModel", "men", "I", false)
  | 51 => ("EngineShedModel", "knows", "[I", true)
  | 52 => ("EngineShedModel", "turns", "I", false)
  | 53 => ("EngineShedModel", "from", "[I", true)
  | 54 => ("EngineShedModel", "to", "[I", true)
  | 55 => ("EngineShedModel", "begins", "[I", true)
  | 56 => ("EngineShedModel", "ends", "[I", true)
  | 57 => ("EngineShedModel", "far", "[I", true)
  | 58 => ("EngineShedModel", "load", "[I", true)
  | 59 => ("EngineShedModel", "line", "[I", true)
  | 60 => ("EngineShedModel", "isSpare", "[Z", true)
  | 61 => ("EngineShedModel", "facts", "I", false)
  | 62 => ("EngineShedModel", "sort", "[I", true)
  | 63 => ("EngineShedModel", "fDay", "[I", true)
  | 64 => ("EngineShedModel", "fEngine", "[I", true)
  | 65 => ("EngineShedModel", "fA", "[I", true)
  | 66 => ("EngineShedModel", "fB", "[I", true)
  | 67 => ("EngineShedModel", "goneN", "I", false)
  | 68 => ("EngineShedModel", "at", "[I", true)
  | 69 => ("EngineShedModel", "how", "[I", true)
  | 70 => ("EngineShedModel", "until", "[I", true)
  | 71 => ("EngineShedModel", "miles", "[I", true)
  | 72 => ("EngineShedModel", "wear", "[I", true)
  | 73 => ("EngineShedModel", "washed", "[I", true)
  | 74 => ("EngineShedModel", "looked", "[I", true)
  | 75 => ("EngineShedModel", "keeper", "[I", true)
  | 76 => ("EngineShedModel", "isWashed", "[Z", true)
  | 77 => ("EngineShedModel", "lastRun", "[I", true)
  | 78 => ("EngineShedModel", "ranUntil", "[I", true)
  | 79 => ("EngineShedModel", "isCut", "[Z", true)
  | 80 => ("EngineShedModel", "manHours", "[I", true)
  | 81 => ("EngineShedModel", "manMany", "[I", true)
  | 82 => ("EngineShedModel", "hasRun", "[Z", true)
  | 83 => ("EngineShedModel", "evening", "[I", true)
  | 84 => ("EngineShedModel", "morning", "[I", true)
  | 85 => ("EngineShedModel", "isDue", "[Z", true)
  | 86 => ("EngineShedModel", "isVoidBy", "[I", true)
  | 87 => ("EngineShedModel", "barBy", "[I", true)
  | 88 => ("EngineShedModel", "runMiles", "[I", true)
  | 89 => ("EngineShedModel", "runWear", "[I", true)
  | 90 => ("EngineShedModel", "runCoal", "[I", true)
  | 91 => ("EngineShedModel", "isBeyond", "[Z", true)
  | 92 => ("EngineShedModel", "milesAhead", "[I", true)
  | 93 => ("EngineShedModel", "did", "[Z", true)
  | 94 => ("EngineShedModel", "stoodAt", "[I", true)
  | 95 => ("EngineShedModel", "manThen", "[I", true)
  | 96 => ("EngineShedModel", "price", "[I", true)
  | 97 => ("EngineShedModel", "wanted", "[I", true)
  | 98 => ("EngineShedModel", "wantedMany", "I", false)
  | 99 => ("EngineShedModel", "least", "[I", true)
  | 100 => ("EngineShedModel", "isTold", "Z", false)
  | 101 => ("EngineShedModel", "lacking", "I", false)
  | 102 => ("EngineShedModel", "givenTo", "[I", true)
  | 103 => ("EngineShedModel", "comeIn", "[I", true)
  | 104 => ("EngineShedModel", "goOut", "[I", true)
  | 105 => ("EngineShedModel", "inMany", "I", false)
  | 106 => ("EngineShedModel", "outMany", "I", false)
  | 107 => ("EngineShedModel", "roadOf", "[I", true)
  | 108 => ("EngineShedModel", "roadNow", "[I", true)
  | 109 => ("EngineShedModel", "canMay", "[Z", true)
  | 110 => ("EngineShedModel", "monthOf", "[I", true)
  | 111 => ("EngineShedModel", "member", "[I", true)
  | 112 => ("EngineShedModel", "monthNow", "[I", true)
  | 113 => ("EngineShedModel", "isEnough", "[Z", true)
  | 114 => ("EngineShedModel", "reached", "[Z", true)
  | 115 => ("EngineShedModel", "failed", "I", false)
  | 116 => ("EngineShedModel", "causeOf", "[I", true)
  | 117 => ("EngineShedModel", "causeMany", "I", false)
  | 118 => ("EngineShedModel", "causeFewest", "I", false)
  | _ => ("EngineShedModel", "isHeld", "[Z", true)
def tyX12 : Nat → FieldType := fun k => match k with
  | 0 => .int
  | 1 => .array .byte
  | 2 => .int
  | 3 => .array .byte
  | 4 => .int
  | 5 => .array .int
  | 6 => .array .int
  | 7 => .array .int
  | 8 => .array .long
  | 9 => .array .long
  | 10 => .int
  | 11 => .int
  | 12 => .int
  | 13 => .int
  | 14 => .int
  | 15 => .int
  | 16 => .int
  | 17 => .int
  | 18 => .int
  | 19 => .array .int
  | 20 => .array .int
  | 21 => .array .int
  | 22 => .array .long
  | 23 => .array .int
  | 24 => .array .int
  | 25 => .array .int
  | 26 => .array .int
  | 27 => .int
  | 28 => .array .int
  | 29 => .array .boolean
  | 30 => .array .boolean
  | 31 => .array .int
  | 32 => .array .int
  | 33 => .array .int
  | 34 => .int
  | 35 => .array .int
  | 36 => .array .int
  | 37 => .array .int
  | 38 => .int
  | 39 => .array .int
  | 40 => .array .int
  | 41 => .boolean
  | 42 => .int
  | 43 => .int
  | 44 => .array .int
  | 45 => .int
  | 46 => .array .int
  | 47 => .int
  | 48 => .array .int
  | 49 => .array .int
  | 50 => .int
  | 51 => .array .int
  | 52 => .int
  | 53 => .array .int
  | 54 => .array .int
  | 55 => .array .int
  | 56 => .array .int
  | 57 => .array .int
  | 58 => .array .int
  | 59 => .array .int
  | 60 => .array .boolean
  | 61 => .int
  | 62 => .array .int
  | 63 => .array .int
  | 64 => .array .int
  | 65 => .array .int
  | 66 => .array .int
  | 67 => .int
  | 68 => .array .int
  | 69 => .array .int
  | 70 => .array .int
  | 71 => .array .int
  | 72 => .array .int
  | 73 => .array .int
  | 74 => .array .int
  | 75 => .array .int
  | 76 => .array .boolean
  | 77 => .array .int
  | 78 => .array .int
  | 79 => .array .boolean
  | 80 => .array .int
  | 81 => .array .int
  | 82 => .array .boolean
  | 83 => .array .int
  | 84 => .array .int
  | 85 => .array .boolean
  | 86 => .array .int
  | 87 => .array .int
  | 88 => .array .int
  | 89 => .array .int
  | 90 => .array .int
  | 91 => .array .boolean
  | 92 => .array .int
  | 93 => .array .boolean
  | 94 => .array .int
  | 95 => .array .int
  | 96 => .array .int
  | 97 => .array .int
  | 98 => .int
  | 99 => .array .int
  | 100 => .boolean
  | 101 => .int
  | 102 => .array .int
  | 103 => .array .int
  | 104 => .array .int
  | 105 => .int
  | 106 => .int
  | 107 => .array .int
  | 108 => .array .int
  | 109 => .array .boolean
  | 110 => .array .int
  | 111 => .array .int
  | 112 => .array .int
  | 113 => .array .boolean
  | 114 => .array .boolean
  | 115 => .int
  | 116 => .array .int
  | 117 => .int
  | 118 => .int
  | _ => .array .boolean
abbrev wsX120 : List Cond := u_ws RX12 TX12 120
theorem nmX12 : ∀ a, a < 120 → ∀ b, b < 120 → a ≠ b → (TX12 a).2.1 ≠ (TX12 b).2.1 := by decide +kernel
theorem tyX12_ok : ∀ k, k < 120 → parseFieldDescriptor (TX12 k).2.2.1 = some (tyX12 k) := by decide +kernel
abbrev cX12_init : ByteArray := prog_14_method_2_code
def yX12_init : MethodName := ⟨RX12, "<init>", "()V"⟩
abbrev cX12_feed : ByteArray := prog_14_method_3_code
def yX12_feed : MethodName := ⟨RX12, "feed", "(IIIII)I"⟩
abbrev cX12_put : ByteArray := prog_14_method_4_code
def yX12_put : MethodName := ⟨RX12, "put", "(I)V"⟩
abbrev cX12_back : ByteArray := prog_14_method_5_code
def yX12_back : MethodName := ⟨RX12, "back", "(I)I"⟩
abbrev cX12_at : ByteArray := prog_14_method_6_code
def yX12_at : MethodName := ⟨RX12, "at", "(I)I"⟩
abbrev cX12_isDigit : ByteArray := prog_14_method_7_code
def yX12_isDigit : MethodName := ⟨RX12, "isDigit", "(I)Z"⟩
abbrev cX12_isLetter : ByteArray := prog_14_method_8_code
def yX12_isLetter : MethodName := ⟨RX12, "isLetter", "(I)Z"⟩
abbrev cX12_more : ByteArray := prog_14_method_9_code
def yX12_more : MethodName := ⟨RX12, "more", "(JI)J"⟩
abbrev cX12_word : ByteArray := prog_14_method_10_code
def yX12_word : MethodName := ⟨RX12, "word", "(IIIIIII)J"⟩
abbrev cX12_token : ByteArray := prog_14_method_11_code
def yX12_token : MethodName := ⟨RX12, "token", "(IIIJ)V"⟩
abbrev cX12_cut : ByteArray := prog_14_method_12_code
def yX12_cut : MethodName := ⟨RX12, "cut", "()V"⟩
abbrev cX12_sign : ByteArray := prog_14_method_13_code
def yX12_sign : MethodName := ⟨RX12, "sign", "(III)I"⟩
abbrev cX12_is : ByteArray := prog_14_method_14_code
def yX12_is : MethodName := ⟨RX12, "is", "(I)Z"⟩
abbrev cX12_fail : ByteArray := prog_14_method_15_code
def yX12_fail : MethodName := ⟨RX12, "fail", "(I)V"⟩
abbrev cX12_wrong : ByteArray := prog_14_method_16_code
def yX12_wrong : MethodName := ⟨RX12, "wrong", "(II)V"⟩
abbrev cX12_next : ByteArray := prog_14_method_17_code
def yX12_next : MethodName := ⟨RX12, "next", "()V"⟩
abbrev cX12_must : ByteArray := prog_14_method_18_code
def yX12_must : MethodName := ⟨RX12, "must", "(I)V"⟩
abbrev cX12_read : ByteArray := prog_14_method_19_code
def yX12_read : MethodName := ⟨RX12, "read", "()I"⟩
abbrev cX12_place : ByteArray := prog_14_method_20_code
def yX12_place : MethodName := ⟨RX12, "place", "()I"⟩
abbrev cX12_tellRule : ByteArray := prog_14_method_21_code
def yX12_tellRule : MethodName := ⟨RX12, "tellRule", "()V"⟩
abbrev cX12_literal : ByteArray := prog_14_method_22_code
def yX12_literal : MethodName := ⟨RX12, "literal", "(Z)V"⟩
abbrev cX12_emit : ByteArray := prog_14_method_23_code
def yX12_emit : MethodName := ⟨RX12, "emit", "(II)V"⟩
abbrev cX12_comesOut : ByteArray := prog_14_method_24_code
def yX12_comesOut : MethodName := ⟨RX12, "comesOut", "(Z)V"⟩
abbrev cX12_expression : ByteArray := prog_14_method_25_code
def yX12_expression : MethodName := ⟨RX12, "expression", "()V"⟩
abbrev cX12_unit : ByteArray := prog_14_method_26_code
def yX12_unit : MethodName := ⟨RX12, "unit", "()V"⟩
abbrev cX12_termOf : ByteArray := prog_14_method_27_code
def yX12_termOf : MethodName := ⟨RX12, "termOf", "(II)I"⟩
abbrev cX12_isTrue : ByteArray := prog_14_method_28_code
def yX12_isTrue : MethodName := ⟨RX12, "isTrue", "(I)Z"⟩
abbrev cX12_holds : ByteArray := prog_14_method_29_code
def yX12_holds : MethodName := ⟨RX12, "holds", "(I)Z"⟩
abbrev cX12_forces : ByteArray := prog_14_method_30_code
def yX12_forces : MethodName := ⟨RX12, "forces", "(I)V"⟩
abbrev cX12_comes : ByteArray := prog_14_method_31_code
def yX12_comes : MethodName := ⟨RX12, "comes", "(I)V"⟩
abbrev cX12_first : ByteArray := prog_14_method_32_code
def yX12_first : MethodName := ⟨RX12, "first", "(I)I"⟩
abbrev cX12_tells : ByteArray := prog_14_method_33_code
def yX12_tells : MethodName := ⟨RX12, "tells", "(II)I"⟩
abbrev cX12_in : ByteArray := prog_14_method_34_code
def yX12_in : MethodName := ⟨RX12, "in", "(III)Z"⟩
abbrev cX12_isDay : ByteArray := prog_14_method_35_code
def yX12_isDay : MethodName := ⟨RX12, "isDay", "(I)Z"⟩
abbrev cX12_rules : ByteArray := prog_14_method_36_code
def yX12_rules : MethodName := ⟨RX12, "rules", "(I)I"⟩
abbrev cX12_rule : ByteArray := prog_14_method_37_code
def yX12_rule : MethodName := ⟨RX12, "rule", "(III)I"⟩
abbrev cX12_isShed : ByteArray := prog_14_method_38_code
def yX12_isShed : MethodName := ⟨RX12, "isShed", "(I)Z"⟩
abbrev cX12_isEngine : ByteArray := prog_14_method_39_code
def yX12_isEngine : MethodName := ⟨RX12, "isEngine", "(I)Z"⟩
abbrev cX12_isTurn : ByteArray := prog_14_method_40_code
def yX12_isTurn : MethodName := ⟨RX12, "isTurn", "(I)Z"⟩
abbrev cX12_shed : ByteArray := prog_14_method_41_code
def yX12_shed : MethodName := ⟨RX12, "shed", "()I"⟩
abbrev cX12_way : ByteArray := prog_14_method_42_code
def yX12_way : MethodName := ⟨RX12, "way", "(III)Z"⟩
abbrev cX12_engine : ByteArray := prog_14_method_43_code
def yX12_engine : MethodName := ⟨RX12, "engine", "(II)I"⟩
abbrev cX12_man : ByteArray := prog_14_method_44_code
def yX12_man : MethodName := ⟨RX12, "man", "(I)I"⟩
abbrev cX12_turn : ByteArray := prog_14_method_45_code
def yX12_turn : MethodName := ⟨RX12, "turn", "(IIIIIIIZ)I"⟩
abbrev cX12_changed : ByteArray := prog_14_method_46_code
def yX12_changed : MethodName := ⟨RX12, "changed", "()V"⟩
abbrev cX12_tellsFact : ByteArray := prog_14_method_47_code
def yX12_tellsFact : MethodName := ⟨RX12, "tellsFact", "(IIIII)I"⟩
abbrev cX12_run : ByteArray := prog_14_method_48_code
def yX12_run : MethodName := ⟨RX12, "run", "(IIII)I"⟩
abbrev cX12_mile : ByteArray := prog_14_method_49_code
def yX12_mile : MethodName := ⟨RX12, "mile", "(II)I"⟩
abbrev cX12_fact : ByteArray := prog_14_method_50_code
def yX12_fact : MethodName := ⟨RX12, "fact", "(III)I"⟩
abbrev cX12_shops : ByteArray := prog_14_method_51_code
def yX12_shops : MethodName := ⟨RX12, "shops", "(III)I"⟩
abbrev cX12_fails : ByteArray := prog_14_method_52_code
def yX12_fails : MethodName := ⟨RX12, "fails", "(III)I"⟩
abbrev cX12_lent : ByteArray := prog_14_method_53_code
def yX12_lent : MethodName := ⟨RX12, "lent", "(III)I"⟩
abbrev cX12_coals : ByteArray := prog_14_method_54_code
def yX12_coals : MethodName := ⟨RX12, "coals", "(III)I"⟩
abbrev cX12_isKnown : ByteArray := prog_14_method_55_code
def yX12_isKnown : MethodName := ⟨RX12, "isKnown", "(I)Z"⟩
abbrev cX12_goes : ByteArray := prog_14_method_56_code
def yX12_goes : MethodName := ⟨RX12, "goes", "(I)V"⟩
abbrev cX12_saves : ByteArray := prog_14_method_57_code
def yX12_saves : MethodName := ⟨RX12, "saves", "([II)V"⟩
abbrev cX12_wakes : ByteArray := prog_14_method_58_code
def yX12_wakes : MethodName := ⟨RX12, "wakes", "(I)V"⟩
abbrev cX12_stands : ByteArray := prog_14_method_59_code
def yX12_stands : MethodName := ⟨RX12, "stands", "(II)V"⟩
abbrev cX12_fills : ByteArray := prog_14_method_60_code
def yX12_fills : MethodName := ⟨RX12, "fills", "(IIIIIII)V"⟩
abbrev cX12_asks : ByteArray := prog_14_method_61_code
def yX12_asks : MethodName := ⟨RX12, "asks", "(I)V"⟩
abbrev cX12_happens : ByteArray := prog_14_method_62_code
def yX12_happens : MethodName := ⟨RX12, "happens", "(II)V"⟩
abbrev cX12_breaksDown : ByteArray := prog_14_method_63_code
def yX12_breaksDown : MethodName := ⟨RX12, "breaksDown", "(I)V"⟩
abbrev cX12_milesOf : ByteArray := prog_14_method_64_code
def yX12_milesOf : MethodName := ⟨RX12, "milesOf", "(II)I"⟩
abbrev cX12_hoursOf : ByteArray := prog_14_method_65_code
def yX12_hoursOf : MethodName := ⟨RX12, "hoursOf", "(II)I"⟩
abbrev cX12_goesOut : ByteArray := prog_14_method_66_code
def yX12_goesOut : MethodName := ⟨RX12, "goesOut", "(II)V"⟩
abbrev cX12_state : ByteArray := prog_14_method_67_code
def yX12_state : MethodName := ⟨RX12, "state", "(IIII)I"⟩
abbrev cX12_isRun : ByteArray := prog_14_method_68_code
def yX12_isRun : MethodName := ⟨RX12, "isRun", "(II)Z"⟩
abbrev cX12_isVoid : ByteArray := prog_14_method_69_code
def yX12_isVoid : MethodName := ⟨RX12, "isVoid", "(II)I"⟩
abbrev cX12_held : ByteArray := prog_14_method_70_code
def yX12_held : MethodName := ⟨RX12, "held", "(III)I"⟩
abbrev cX12_bar : ByteArray := prog_14_method_71_code
def yX12_bar : MethodName := ⟨RX12, "bar", "(II)I"⟩
abbrev cX12_due : ByteArray := prog_14_method_72_code
def yX12_due : MethodName := ⟨RX12, "due", "(III)I"⟩
abbrev cX12_beyond : ByteArray := prog_14_method_73_code
def yX12_beyond : MethodName := ⟨RX12, "beyond", "(III)I"⟩
abbrev cX12_help : ByteArray := prog_14_method_74_code
def yX12_help : MethodName := ⟨RX12, "help", "(II)I"⟩
abbrev cX12_coal : ByteArray := prog_14_method_75_code
def yX12_coal : MethodName := ⟨RX12, "coal", "(III)I"⟩
abbrev cX12_owes : ByteArray := prog_14_method_76_code
def yX12_owes : MethodName := ⟨RX12, "owes", "(IIIII)I"⟩
abbrev cX12_bits : ByteArray := prog_14_method_77_code
def yX12_bits : MethodName := ⟨RX12, "bits", "(I)I"⟩
abbrev cX12_prices : ByteArray := prog_14_method_78_code
def yX12_prices : MethodName := ⟨RX12, "prices", "(I)V"⟩
abbrev cX12_best : ByteArray := prog_14_method_79_code
def yX12_best : MethodName := ⟨RX12, "best", "(III)I"⟩
abbrev cX12_lacks : ByteArray := prog_14_method_80_code
def yX12_lacks : MethodName := ⟨RX12, "lacks", "()V"⟩
abbrev cX12_given : ByteArray := prog_14_method_81_code
def yX12_given : MethodName := ⟨RX12, "given", "(I)I"⟩
abbrev cX12_lack : ByteArray := prog_14_method_82_code
def yX12_lack : MethodName := ⟨RX12, "lack", "()I"⟩
abbrev cX12_lines : ByteArray := prog_14_method_83_code
def yX12_lines : MethodName := ⟨RX12, "lines", "(ZI)I"⟩
abbrev cX12_clear : ByteArray := prog_14_method_84_code
def yX12_clear : MethodName := ⟨RX12, "clear", "()V"⟩
abbrev cX12_outAt : ByteArray := prog_14_method_85_code
def yX12_outAt : MethodName := ⟨RX12, "outAt", "(I)I"⟩
abbrev cX12_roads : ByteArray := prog_14_method_86_code
def yX12_roads : MethodName := ⟨RX12, "roads", "(I)I"⟩
abbrev cX12_isInTheWay : ByteArray := prog_14_method_87_code
def yX12_isInTheWay : MethodName := ⟨RX12, "isInTheWay", "(I)Z"⟩
abbrev cX12_road : ByteArray := prog_14_method_88_code
def yX12_road : MethodName := ⟨RX12, "road", "(I)I"⟩
abbrev cX12_may : ByteArray := prog_14_method_89_code
def yX12_may : MethodName := ⟨RX12, "may", "(IIZ)Z"⟩
abbrev cX12_has : ByteArray := prog_14_method_90_code
def yX12_has : MethodName := ⟨RX12, "has", "(II)Z"⟩
abbrev cX12_holdsOut : ByteArray := prog_14_method_91_code
def yX12_holdsOut : MethodName := ⟨RX12, "holdsOut", "(III)Z"⟩
abbrev cX12_months : ByteArray := prog_14_method_92_code
def yX12_months : MethodName := ⟨RX12, "months", "(IIIII)I"⟩
abbrev cX12_isGood : ByteArray := prog_14_method_93_code
def yX12_isGood : MethodName := ⟨RX12, "isGood", "(II)Z"⟩
abbrev cX12_month : ByteArray := prog_14_method_94_code
def yX12_month : MethodName := ⟨RX12, "month", "(I)I"⟩
abbrev cX12_causesOf : ByteArray := prog_14_method_95_code
def yX12_causesOf : MethodName := ⟨RX12, "causesOf", "(II)I"⟩
abbrev cX12_hits : ByteArray := prog_14_method_96_code
def yX12_hits : MethodName := ⟨RX12, "hits", "(I)Z"⟩
abbrev cX12_causes : ByteArray := prog_14_method_97_code
def yX12_causes : MethodName := ⟨RX12, "causes", "(I)I"⟩
abbrev cX12_cause : ByteArray := prog_14_method_98_code
def yX12_cause : MethodName := ⟨RX12, "cause", "(II)I"⟩
abbrev cX12_turned : ByteArray := prog_14_method_99_code
def yX12_turned : MethodName := ⟨RX12, "turned", "(II)I"⟩
abbrev cX12_count : ByteArray := prog_14_method_100_code
def yX12_count : MethodName := ⟨RX12, "count", "(I)I"⟩
def RJx145de : String := "java/io/Serializable"
def TJx145de : u_T := fun k => match k with
  | _ => ("", "", "", false)
def tyJx145de : Nat → FieldType := fun k => match k with
  | _ => .int
abbrev wsJx145de0 : List Cond := u_ws RJx145de TJx145de 0
theorem nmJx145de : ∀ a, a < 0 → ∀ b, b < 0 → a ≠ b → (TJx145de a).2.1 ≠ (TJx145de b).2.1 := by decide +kernel
theorem tyJx145de_ok : ∀ k, k < 0 → parseFieldDescriptor (TJx145de k).2.2.1 = some (tyJx145de k) := by decide +kernel
def RJx9f9b0 : String := "java/lang/CharSequence"
def TJx9f9b0 : u_T := fun k => match k with
  | _ => ("", "", "", false)
def tyJx9f9b0 : Nat → FieldType := fun k => match k with
  | _ => .int
abbrev wsJx9f9b00 : List Cond := u_ws RJx9f9b0 TJx9f9b0 0
theorem nmJx9f9b0 : ∀ a, a < 0 → ∀ b, b < 0 → a ≠ b → (TJx9f9b0 a).2.1 ≠ (TJx9f9b0 b).2.1 := by decide +kernel
theorem tyJx9f9b0_ok : ∀ k, k < 0 → parseFieldDescriptor (TJx9f9b0 k).2.2.1 = some (tyJx9f9b0 k) := by decide +kernel
def RJ11 : String := "java/lang/Character"
def TJ11 : u_T := fun k => match k with
  | _ => ("", "", "", false)
def tyJ11 : Nat → FieldType := fun k => match k with
  | _ => .int
abbrev wsJ110 : List Cond := u_ws RJ11 TJ11 0
theorem nmJ11 : ∀ a, a < 0 → ∀ b, b < 0 → a ≠ b → (TJ11 a).2.1 ≠ (TJ11 b).2.1 := by decide +kernel
theorem tyJ11_ok : ∀ k, k < 0 → parseFieldDescriptor (TJ11 k).2.2.1 = some (tyJ11 k) := by decide +kernel
abbrev cJ11_isValidCodePoint_9a6ad : ByteArray := prog_15_method_11_code
def yJ11_isValidCodePoint_9a6ad : MethodName := ⟨RJ11, "isValidCodePoint", "(I)Z"⟩
abbrev cJ11_highSurrogate_5068e : ByteArray := prog_15_method_28_code
def yJ11_highSurrogate_5068e : MethodName := ⟨RJ11, "highSurrogate", "(I)C"⟩
abbrev cJ11_lowSurrogate_5068e : ByteArray := prog_15_method_29_code
def yJ11_lowSurrogate_5068e : MethodName := ⟨RJ11, "lowSurrogate", "(I)C"⟩
def RJxb160c : String := "java/lang/Comparable"
def TJxb160c : u_T := fun k => match k with
  | _ => ("", "", "", false)
def tyJxb160c : Nat → FieldType := fun k => match k with
  | _ => .int
abbrev wsJxb160c0 : List Cond := u_ws RJxb160c TJxb160c 0
theorem nmJxb160c : ∀ a, a < 0 → ∀ b, b < 0 → a ≠ b → (TJxb160c a).2.1 ≠ (TJxb160c b).2.1 := by decide +kernel
theorem tyJxb160c_ok : ∀ k, k < 0 → parseFieldDescriptor (TJxb160c k).2.2.1 = some (tyJxb160c k) := by decide +kernel
def RJ6 : String := "java/lang/Integer"
def TJ6 : u_T := fun k => match k with
  | _ => ("", "", "", false)
def tyJ6 : Nat → FieldType := fun k => match k with
  | _ => .int
abbrev wsJ60 : List Cond := u_ws RJ6 TJ6 0
theorem nmJ6 : ∀ a, a < 0 → ∀ b, b < 0 → a ≠ b → (TJ6 a).2.1 ≠ (TJ6 b).2.1 := by decide +kernel
theorem tyJ6_ok : ∀ k, k < 0 → parseFieldDescriptor (TJ6 k).2.2.1 = some (tyJ6 k) := by decide +kernel
abbrev cJ6_bitCount_0f7a4 : ByteArray := prog_16_method_49_code
def yJ6_bitCount_0f7a4 : MethodName := ⟨RJ6, "bitCount", "(I)I"⟩
def RJ9 : String := "java/lang/Math"
def TJ9 : u_T := fun k => match k with
  | _ => ("", "", "", false)
def tyJ9 : Nat → FieldType := fun k => match k with
  | _ => .int
abbrev wsJ90 : List Cond := u_ws RJ9 TJ9 0
theorem nmJ9 : ∀ a, a < 0 → ∀ b, b < 0 → a ≠ b → (TJ9 a).2.1 ≠ (TJ9 b).2.1 := by decide +kernel
theorem tyJ9_ok : ∀ k, k < 0 → parseFieldDescriptor (TJ9 k).2.2.1 = some (tyJ9 k) := by decide +kernel
abbrev cJ9_max_7cf53 : ByteArray := prog_17_method_65_code
def yJ9_max_7cf53 : MethodName := ⟨RJ9, "max", "(II)I"⟩
abbrev cJ9_min_7cf53 : ByteArray := prog_17_method_69_code
def yJ9_min_7cf53 : MethodName := ⟨RJ9, "min", "(II)I"⟩
def RJ0 : String := "java/lang/String"
def TJ0 : u_T := fun k => match k with
  | _ => ("", "", "", false)
def tyJ0 : Nat → FieldType := fun k => match k with
  | _ => .int
abbrev wsJ00 : List Cond := u_ws RJ0 TJ0 0
theorem nmJ0 : ∀ a, a < 0 → ∀ b, b < 0 → a ≠ b → (TJ0 a).2.1 ≠ (TJ0 b).2.1 := by decide +kernel
theorem tyJ0_ok : ∀ k, k < 0 → parseFieldDescriptor (TJ0 k).2.2.1 = some (tyJ0 k) := by decide +kernel
abbrev cJ0_length_8abf5 : ByteArray := prog_18_method_54_code
def yJ0_length_8abf5 : MethodName := ⟨RJ0, "length", "()I"⟩
abbrev cJ0_charAt_5068e : ByteArray := prog_18_method_56_code
def yJ0_charAt_5068e : MethodName := ⟨RJ0, "charAt", "(I)C"⟩
abbrev cJ0_indexOf_0f7a4 : ByteArray := prog_18_method_79_code
def yJ0_indexOf_0f7a4 : MethodName := ⟨RJ0, "indexOf", "(I)I"⟩
abbrev cJ0_indexOf_7cf53 : ByteArray := prog_18_method_80_code
def yJ0_indexOf_7cf53 : MethodName := ⟨RJ0, "indexOf", "(II)I"⟩
abbrev cJ0_coder_7d493 : ByteArray := prog_18_method_152_code
def yJ0_coder_7d493 : MethodName := ⟨RJ0, "coder", "()B"⟩
abbrev cJ0_isLatin1_aae02 : ByteArray := prog_18_method_154_code
def yJ0_isLatin1_aae02 : MethodName := ⟨RJ0, "isLatin1", "()Z"⟩
abbrev cJ0_checkIndex_df160 : ByteArray := prog_18_method_155_code
def yJ0_checkIndex_df160 : MethodName := ⟨RJ0, "checkIndex", "(II)V"⟩
abbrev cJ0_checkBoundsBeginEnd_23922 : ByteArray := prog_18_method_158_code
def yJ0_checkBoundsBeginEnd_23922 : MethodName := ⟨RJ0, "checkBoundsBeginEnd", "(III)V"⟩
def RJ1 : String := "java/lang/StringLatin1"
def TJ1 : u_T := fun k => match k with
  | _ => ("", "", "", false)
def tyJ1 : Nat → FieldType := fun k => match k with
  | _ => .int
abbrev wsJ10 : List Cond := u_ws RJ1 TJ1 0
theorem nmJ1 : ∀ a, a < 0 → ∀ b, b < 0 → a ≠ b → (TJ1 a).2.1 ≠ (TJ1 b).2.1 := by decide +kernel
theorem tyJ1_ok : ∀ k, k < 0 → parseFieldDescriptor (TJ1 k).2.2.1 = some (tyJ1 k) := by decide +kernel
abbrev cJ1_charAt_3b067 : ByteArray := prog_19_method_2_code
def yJ1_charAt_3b067 : MethodName := ⟨RJ1, "charAt", "([BI)C"⟩
abbrev cJ1_canEncode_9a6ad : ByteArray := prog_19_method_4_code
def yJ1_canEncode_9a6ad : MethodName := ⟨RJ1, "canEncode", "(I)Z"⟩
abbrev cJ1_indexOf_4cfef : ByteArray := prog_19_method_22_code
def yJ1_indexOf_4cfef : MethodName := ⟨RJ1, "indexOf", "([BIII)I"⟩
abbrev cJ1_indexOfChar_4cfef : ByteArray := prog_19_method_23_code
def yJ1_indexOfChar_4cfef : MethodName := ⟨RJ1, "indexOfChar", "([BIII)I"⟩
def RJ2 : String := "java/lang/StringUTF16"
def TJ2 : u_T := fun k => match k with
  | _ => ("", "", "", false)
def tyJ2 : Nat → FieldType := fun k => match k with
  | _ => .int
abbrev wsJ20 : List Cond := u_ws RJ2 TJ2 0
theorem nmJ2 : ∀ a, a < 0 → ∀ b, b < 0 → a ≠ b → (TJ2 a).2.1 ≠ (TJ2 b).2.1 := by decide +kernel
theorem tyJ2_ok : ∀ k, k < 0 → parseFieldDescriptor (TJ2 k).2.2.1 = some (tyJ2 k) := by decide +kernel
abbrev cJ2_getChar_3b067 : ByteArray := prog_20_method_5_code
def yJ2_getChar_3b067 : MethodName := ⟨RJ2, "getChar", "([BI)C"⟩
abbrev cJ2_length_9d52b : ByteArray := prog_20_method_6_code
def yJ2_length_9d52b : MethodName := ⟨RJ2, "length", "([B)I"⟩
abbrev cJ2_indexOf_4cfef : ByteArray := prog_20_method_40_code
def yJ2_indexOf_4cfef : MethodName := ⟨RJ2, "indexOf", "([BIII)I"⟩
abbrev cJ2_indexOfChar_4cfef : ByteArray := prog_20_method_47_code
def yJ2_indexOfChar_4cfef : MethodName := ⟨RJ2, "indexOfChar", "([BIII)I"⟩
abbrev cJ2_indexOfCharUnsafe_4cfef : ByteArray := prog_20_method_48_code
def yJ2_indexOfCharUnsafe_4cfef : MethodName := ⟨RJ2, "indexOfCharUnsafe", "([BIII)I"⟩
abbrev cJ2_indexOfSupplementary_4cfef : ByteArray := prog_20_method_49_code
def yJ2_indexOfSupplementary_4cfef : MethodName := ⟨RJ2, "indexOfSupplementary", "([BIII)I"⟩
abbrev cJ2_charAt_3b067 : ByteArray := prog_20_method_83_code
def yJ2_charAt_3b067 : MethodName := ⟨RJ2, "charAt", "([BI)C"⟩
abbrev cJ2_checkIndex_2214a : ByteArray := prog_20_method_91_code
def yJ2_checkIndex_2214a : MethodName := ⟨RJ2, "checkIndex", "(I[B)V"⟩
abbrev cJ2_checkBoundsBeginEnd_d044e : ByteArray := prog_20_method_93_code
def yJ2_checkBoundsBeginEnd_d044e : MethodName := ⟨RJ2, "checkBoundsBeginEnd", "(II[B)V"⟩
def RJ10 : String := "java/lang/System"
def TJ10 : u_T := fun k => match k with
  | _ => ("", "", "", false)
def tyJ10 : Nat → FieldType := fun k => match k with
  | _ => .int
abbrev wsJ100 : List Cond := u_ws RJ10 TJ10 0
theorem nmJ10 : ∀ a, a < 0 → ∀ b, b < 0 → a ≠ b → (TJ10 a).2.1 ≠ (TJ10 b).2.1 := by decide +kernel
theorem tyJ10_ok : ∀ k, k < 0 → parseFieldDescriptor (TJ10 k).2.2.1 = some (tyJ10 k) := by decide +kernel
def RJxfd54e : String := "java/lang/constant/Constable"
def TJxfd54e : u_T := fun k => match k with
  | _ => ("", "", "", false)
def tyJxfd54e : Nat → FieldType := fun k => match k with
  | _ => .int
abbrev wsJxfd54e0 : List Cond := u_ws RJxfd54e TJxfd54e 0
theorem nmJxfd54e : ∀ a, a < 0 → ∀ b, b < 0 → a ≠ b → (TJxfd54e a).2.1 ≠ (TJxfd54e b).2.1 := by decide +kernel
theorem tyJxfd54e_ok : ∀ k, k < 0 → parseFieldDescriptor (TJxfd54e k).2.2.1 = some (tyJxfd54e k) := by decide +kernel
def RJx3cf43 : String := "java/lang/constant/ConstantDesc"
def TJx3cf43 : u_T := fun k => match k with
  | _ => ("", "", "", false)
def tyJx3cf43 : Nat → FieldType := fun k => match k with
  | _ => .int
abbrev wsJx3cf430 : List Cond := u_ws RJx3cf43 TJx3cf43 0
theorem nmJx3cf43 : ∀ a, a < 0 → ∀ b, b < 0 → a ≠ b → (TJx3cf43 a).2.1 ≠ (TJx3cf43 b).2.1 := by decide +kernel
theorem tyJx3cf43_ok : ∀ k, k < 0 → parseFieldDescriptor (TJx3cf43 k).2.2.1 = some (tyJx3cf43 k) := by decide +kernel
def RJ7 : String := "java/util/Arrays"
def TJ7 : u_T := fun k => match k with
  | _ => ("", "", "", false)
def tyJ7 : Nat → FieldType := fun k => match k with
  | _ => .int
abbrev wsJ70 : List Cond := u_ws RJ7 TJ7 0
theorem nmJ7 : ∀ a, a < 0 → ∀ b, b < 0 → a ≠ b → (TJ7 a).2.1 ≠ (TJ7 b).2.1 := by decide +kernel
theorem tyJ7_ok : ∀ k, k < 0 → parseFieldDescriptor (TJ7 k).2.2.1 = some (tyJ7 k) := by decide +kernel
abbrev cJ7_fill_53178 : ByteArray := prog_22_method_103_code
def yJ7_fill_53178 : MethodName := ⟨RJ7, "fill", "([II)V"⟩
def RJ3 : String := "jdk/internal/util/Preconditions"
def TJ3 : u_T := fun k => match k with
  | _ => ("", "", "", false)
def tyJ3 : Nat → FieldType := fun k => match k with
  | _ => .int
abbrev wsJ30 : List Cond := u_ws RJ3 TJ3 0
theorem nmJ3 : ∀ a, a < 0 → ∀ b, b < 0 → a ≠ b → (TJ3 a).2.1 ≠ (TJ3 b).2.1 := by decide +kernel
theorem tyJ3_ok : ∀ k, k < 0 → parseFieldDescriptor (TJ3 k).2.2.1 = some (tyJ3 k) := by decide +kernel
abbrev cJ3_checkIndex_8e157 : ByteArray := prog_23_method_11_code
def yJ3_checkIndex_8e157 : MethodName := ⟨RJ3, "checkIndex", "(IILjava/util/function/BiFunction;)I"⟩
abbrev cJ3_checkFromToIndex_8c36e : ByteArray := prog_23_method_12_code
def yJ3_checkFromToIndex_8c36e : MethodName := ⟨RJ3, "checkFromToIndex", "(IIILjava/util/function/BiFunction;)I"⟩
def RL : String := "EngineShedLaw"
abbrev cL_law : ByteArray := code
def yL_law : MethodName := ⟨RL, "law", "([I)Z"⟩
