section
-- ===== PART A: goes FIRST, ahead of the names: the tables' words, and 'selects' of the private methods out of them =====
/-- a private method of a class that the tables say can be made, by its rows of tables_1 -/
def lw_okq (q : MethodName × Nat) : Prop := (q.1.cls ≠ "java/lang/invoke/MethodHandle" ∧ q.1.cls ≠ "java/lang/invoke/VarHandle") ∧ Cond.instantiable q.1.cls q.2 ∈ tables_1 ∧ Cond.privateMethod q.1 ∈ tables_1 ∧ Cond.instanceMethod q.1 ∈ tables_1
theorem lw_p0 : lw_okq (⟨"BlueBag$Coast", "bitsBeside", "(I)I"⟩, 9) := ⟨⟨by decide +kernel, by decide +kernel⟩, List.mem_of_getElem? (i := 51) (by decide +kernel), List.mem_of_getElem? (i := 86) (by decide +kernel), List.mem_of_getElem? (i := 87) (by decide +kernel)⟩
theorem lw_p1 : lw_okq (⟨"BlueBag", "refuseAct", "()I"⟩, 13) := ⟨⟨by decide +kernel, by decide +kernel⟩, List.mem_of_getElem? (i := 28) (by decide +kernel), List.mem_of_getElem? (i := 434) (by decide +kernel), List.mem_of_getElem? (i := 435) (by decide +kernel)⟩
theorem lw_p2 : lw_okq (⟨"BlueBag$Sky", "setValues", "(I)V"⟩, 13) := ⟨⟨by decide +kernel, by decide +kernel⟩, List.mem_of_getElem? (i := 151) (by decide +kernel), List.mem_of_getElem? (i := 486) (by decide +kernel), List.mem_of_getElem? (i := 487) (by decide +kernel)⟩
theorem lw_p3 : lw_okq (⟨"BlueBag$Sky", "drip", "(II)V"⟩, 13) := ⟨⟨by decide +kernel, by decide +kernel⟩, List.mem_of_getElem? (i := 151) (by decide +kernel), List.mem_of_getElem? (i := 527) (by decide +kernel), List.mem_of_getElem? (i := 528) (by decide +kernel)⟩
theorem lw_p4 : lw_okq (⟨"BlueBag$Sky", "markOverdone", "()V"⟩, 13) := ⟨⟨by decide +kernel, by decide +kernel⟩, List.mem_of_getElem? (i := 151) (by decide +kernel), List.mem_of_getElem? (i := 533) (by decide +kernel), List.mem_of_getElem? (i := 534) (by decide +kernel)⟩
theorem lw_p5 : lw_okq (⟨"BlueBag$Sky", "fade", "()V"⟩, 13) := ⟨⟨by decide +kernel, by decide +kernel⟩, List.mem_of_getElem? (i := 151) (by decide +kernel), List.mem_of_getElem? (i := 543) (by decide +kernel), List.mem_of_getElem? (i := 544) (by decide +kernel)⟩
theorem lw_p6 : lw_okq (⟨"BlueBag$Sky", "fadeOf", "(I)I"⟩, 13) := ⟨⟨by decide +kernel, by decide +kernel⟩, List.mem_of_getElem? (i := 151) (by decide +kernel), List.mem_of_getElem? (i := 547) (by decide +kernel), List.mem_of_getElem? (i := 548) (by decide +kernel)⟩
theorem lw_p7 : lw_okq (⟨"BlueBag", "lookAhead", "(I)V"⟩, 13) := ⟨⟨by decide +kernel, by decide +kernel⟩, List.mem_of_getElem? (i := 28) (by decide +kernel), List.mem_of_getElem? (i := 575) (by decide +kernel), List.mem_of_getElem? (i := 576) (by decide +kernel)⟩
theorem lw_p8 : lw_okq (⟨"BlueBag", "lookAheadIfResting", "(IZ)V"⟩, 13) := ⟨⟨by decide +kernel, by decide +kernel⟩, List.mem_of_getElem? (i := 28) (by decide +kernel), List.mem_of_getElem? (i := 608) (by decide +kernel), List.mem_of_getElem? (i := 609) (by decide +kernel)⟩
theorem lw_p9 : lw_okq (⟨"java/lang/Throwable", "fillInStackTrace", "(I)Ljava/lang/Throwable;"⟩, 6) := ⟨⟨by decide +kernel, by decide +kernel⟩, List.mem_of_getElem? (i := 683) (by decide +kernel), List.mem_of_getElem? (i := 681) (by decide +kernel), List.mem_of_getElem? (i := 682) (by decide +kernel)⟩
theorem lw_p10 : lw_okq (⟨"BlueBag$CoastReader", "readLine", "()Z"⟩, 7) := ⟨⟨by decide +kernel, by decide +kernel⟩, List.mem_of_getElem? (i := 143) (by decide +kernel), List.mem_of_getElem? (i := 735) (by decide +kernel), List.mem_of_getElem? (i := 736) (by decide +kernel)⟩
theorem lw_p11 : lw_okq (⟨"BlueBag$CoastReader", "readSky", "()Z"⟩, 7) := ⟨⟨by decide +kernel, by decide +kernel⟩, List.mem_of_getElem? (i := 143) (by decide +kernel), List.mem_of_getElem? (i := 792) (by decide +kernel), List.mem_of_getElem? (i := 793) (by decide +kernel)⟩
theorem lw_p12 : lw_okq (⟨"BlueBag$CoastReader", "passesOnce", "(I)Z"⟩, 7) := ⟨⟨by decide +kernel, by decide +kernel⟩, List.mem_of_getElem? (i := 143) (by decide +kernel), List.mem_of_getElem? (i := 800) (by decide +kernel), List.mem_of_getElem? (i := 801) (by decide +kernel)⟩
theorem lw_p13 : lw_okq (⟨"BlueBag$CoastReader", "readNumber", "(II)I"⟩, 7) := ⟨⟨by decide +kernel, by decide +kernel⟩, List.mem_of_getElem? (i := 143) (by decide +kernel), List.mem_of_getElem? (i := 805) (by decide +kernel), List.mem_of_getElem? (i := 806) (by decide +kernel)⟩
theorem lw_p14 : lw_okq (⟨"BlueBag$CoastReader", "refuseNumber", "(I)I"⟩, 7) := ⟨⟨by decide +kernel, by decide +kernel⟩, List.mem_of_getElem? (i := 143) (by decide +kernel), List.mem_of_getElem? (i := 809) (by decide +kernel), List.mem_of_getElem? (i := 810) (by decide +kernel)⟩
theorem lw_p15 : lw_okq (⟨"BlueBag$CoastReader", "readBlue", "()Z"⟩, 7) := ⟨⟨by decide +kernel, by decide +kernel⟩, List.mem_of_getElem? (i := 143) (by decide +kernel), List.mem_of_getElem? (i := 824) (by decide +kernel), List.mem_of_getElem? (i := 825) (by decide +kernel)⟩
def lw_privs_1 : List (MethodName × Nat) := [(⟨"BlueBag$Coast", "bitsBeside", "(I)I"⟩, 9), (⟨"BlueBag", "refuseAct", "()I"⟩, 13), (⟨"BlueBag$Sky", "setValues", "(I)V"⟩, 13), (⟨"BlueBag$Sky", "drip", "(II)V"⟩, 13), (⟨"BlueBag$Sky", "markOverdone", "()V"⟩, 13), (⟨"BlueBag$Sky", "fade", "()V"⟩, 13), (⟨"BlueBag$Sky", "fadeOf", "(I)I"⟩, 13), (⟨"BlueBag", "lookAhead", "(I)V"⟩, 13), (⟨"BlueBag", "lookAheadIfResting", "(IZ)V"⟩, 13), (⟨"java/lang/Throwable", "fillInStackTrace", "(I)Ljava/lang/Throwable;"⟩, 6), (⟨"BlueBag$CoastReader", "readLine", "()Z"⟩, 7), (⟨"BlueBag$CoastReader", "readSky", "()Z"⟩, 7), (⟨"BlueBag$CoastReader", "passesOnce", "(I)Z"⟩, 7), (⟨"BlueBag$CoastReader", "readNumber", "(II)I"⟩, 7), (⟨"BlueBag$CoastReader", "refuseNumber", "(I)I"⟩, 7), (⟨"BlueBag$CoastReader", "readBlue", "()Z"⟩, 7)]
theorem lw_r1 : ∀ q ∈ lw_privs_1, lw_okq q := List.forall_mem_cons.mpr ⟨lw_p0, List.forall_mem_cons.mpr ⟨lw_p1, List.forall_mem_cons.mpr ⟨lw_p2, List.forall_mem_cons.mpr ⟨lw_p3, List.forall_mem_cons.mpr ⟨lw_p4, List.forall_mem_cons.mpr ⟨lw_p5, List.forall_mem_cons.mpr ⟨lw_p6, List.forall_mem_cons.mpr ⟨lw_p7, List.forall_mem_cons.mpr ⟨lw_p8, List.forall_mem_cons.mpr ⟨lw_p9, List.forall_mem_cons.mpr ⟨lw_p10, List.forall_mem_cons.mpr ⟨lw_p11, List.forall_mem_cons.mpr ⟨lw_p12, List.forall_mem_cons.mpr ⟨lw_p13, List.forall_mem_cons.mpr ⟨lw_p14, List.forall_mem_cons.mpr ⟨lw_p15, fun _ h => absurd h List.not_mem_nil⟩⟩⟩⟩⟩⟩⟩⟩⟩⟩⟩⟩⟩⟩⟩⟩
theorem lw_p16 : lw_okq (⟨"BlueBag$CoastReader", "readCell", "(I)I"⟩, 7) := ⟨⟨by decide +kernel, by decide +kernel⟩, List.mem_of_getElem? (i := 143) (by decide +kernel), List.mem_of_getElem? (i := 828) (by decide +kernel), List.mem_of_getElem? (i := 829) (by decide +kernel)⟩
theorem lw_p17 : lw_okq (⟨"BlueBag$CoastReader", "readGirl", "(Z)Z"⟩, 7) := ⟨⟨by decide +kernel, by decide +kernel⟩, List.mem_of_getElem? (i := 143) (by decide +kernel), List.mem_of_getElem? (i := 835) (by decide +kernel), List.mem_of_getElem? (i := 836) (by decide +kernel)⟩
theorem lw_p18 : lw_okq (⟨"BlueBag$CoastReader", "readPegs", "()Z"⟩, 7) := ⟨⟨by decide +kernel, by decide +kernel⟩, List.mem_of_getElem? (i := 143) (by decide +kernel), List.mem_of_getElem? (i := 849) (by decide +kernel), List.mem_of_getElem? (i := 850) (by decide +kernel)⟩
theorem lw_p19 : lw_okq (⟨"BlueBag$CoastReader", "readKnobs", "()Z"⟩, 7) := ⟨⟨by decide +kernel, by decide +kernel⟩, List.mem_of_getElem? (i := 143) (by decide +kernel), List.mem_of_getElem? (i := 858) (by decide +kernel), List.mem_of_getElem? (i := 859) (by decide +kernel)⟩
theorem lw_p20 : lw_okq (⟨"BlueBag$CoastReader", "readRinse", "()Z"⟩, 7) := ⟨⟨by decide +kernel, by decide +kernel⟩, List.mem_of_getElem? (i := 143) (by decide +kernel), List.mem_of_getElem? (i := 863) (by decide +kernel), List.mem_of_getElem? (i := 864) (by decide +kernel)⟩
theorem lw_p21 : lw_okq (⟨"BlueBag$CoastReader", "readBound", "()Z"⟩, 7) := ⟨⟨by decide +kernel, by decide +kernel⟩, List.mem_of_getElem? (i := 143) (by decide +kernel), List.mem_of_getElem? (i := 868) (by decide +kernel), List.mem_of_getElem? (i := 869) (by decide +kernel)⟩
theorem lw_p22 : lw_okq (⟨"BlueBag$CoastReader", "readRule", "(ILBlueBag$Rule;)Z"⟩, 7) := ⟨⟨by decide +kernel, by decide +kernel⟩, List.mem_of_getElem? (i := 143) (by decide +kernel), List.mem_of_getElem? (i := 873) (by decide +kernel), List.mem_of_getElem? (i := 874) (by decide +kernel)⟩
theorem lw_p23 : lw_okq (⟨"BlueBag$RuleReader", "readExpr", "(I)Z"⟩, 3) := ⟨⟨by decide +kernel, by decide +kernel⟩, List.mem_of_getElem? (i := 247) (by decide +kernel), List.mem_of_getElem? (i := 882) (by decide +kernel), List.mem_of_getElem? (i := 883) (by decide +kernel)⟩
theorem lw_p24 : lw_okq (⟨"BlueBag$RuleReader", "readAnd", "(I)Z"⟩, 3) := ⟨⟨by decide +kernel, by decide +kernel⟩, List.mem_of_getElem? (i := 247) (by decide +kernel), List.mem_of_getElem? (i := 887) (by decide +kernel), List.mem_of_getElem? (i := 888) (by decide +kernel)⟩
theorem lw_p25 : lw_okq (⟨"BlueBag$RuleReader", "readNot", "(I)Z"⟩, 3) := ⟨⟨by decide +kernel, by decide +kernel⟩, List.mem_of_getElem? (i := 247) (by decide +kernel), List.mem_of_getElem? (i := 891) (by decide +kernel), List.mem_of_getElem? (i := 892) (by decide +kernel)⟩
theorem lw_p26 : lw_okq (⟨"BlueBag$RuleReader", "readTest", "(I)Z"⟩, 3) := ⟨⟨by decide +kernel, by decide +kernel⟩, List.mem_of_getElem? (i := 247) (by decide +kernel), List.mem_of_getElem? (i := 898) (by decide +kernel), List.mem_of_getElem? (i := 899) (by decide +kernel)⟩
theorem lw_p27 : lw_okq (⟨"BlueBag$RuleReader", "readSum", "(I)Z"⟩, 3) := ⟨⟨by decide +kernel, by decide +kernel⟩, List.mem_of_getElem? (i := 247) (by decide +kernel), List.mem_of_getElem? (i := 902) (by decide +kernel), List.mem_of_getElem? (i := 903) (by decide +kernel)⟩
theorem lw_p28 : lw_okq (⟨"BlueBag$RuleReader", "readProduct", "(I)Z"⟩, 3) := ⟨⟨by decide +kernel, by decide +kernel⟩, List.mem_of_getElem? (i := 247) (by decide +kernel), List.mem_of_getElem? (i := 906) (by decide +kernel), List.mem_of_getElem? (i := 907) (by decide +kernel)⟩
theorem lw_p29 : lw_okq (⟨"BlueBag$RuleReader", "readPart", "(I)Z"⟩, 3) := ⟨⟨by decide +kernel, by decide +kernel⟩, List.mem_of_getElem? (i := 247) (by decide +kernel), List.mem_of_getElem? (i := 910) (by decide +kernel), List.mem_of_getElem? (i := 911) (by decide +kernel)⟩
theorem lw_p30 : lw_okq (⟨"BlueBag$RuleReader", "valueHere", "()I"⟩, 3) := ⟨⟨by decide +kernel, by decide +kernel⟩, List.mem_of_getElem? (i := 247) (by decide +kernel), List.mem_of_getElem? (i := 919) (by decide +kernel), List.mem_of_getElem? (i := 920) (by decide +kernel)⟩
theorem lw_p31 : lw_okq (⟨"BlueBag", "needCell", "(I)V"⟩, 13) := ⟨⟨by decide +kernel, by decide +kernel⟩, List.mem_of_getElem? (i := 28) (by decide +kernel), List.mem_of_getElem? (i := 1003) (by decide +kernel), List.mem_of_getElem? (i := 1004) (by decide +kernel)⟩
def lw_privs_2 : List (MethodName × Nat) := [(⟨"BlueBag$CoastReader", "readCell", "(I)I"⟩, 7), (⟨"BlueBag$CoastReader", "readGirl", "(Z)Z"⟩, 7), (⟨"BlueBag$CoastReader", "readPegs", "()Z"⟩, 7), (⟨"BlueBag$CoastReader", "readKnobs", "()Z"⟩, 7), (⟨"BlueBag$CoastReader", "readRinse", "()Z"⟩, 7), (⟨"BlueBag$CoastReader", "readBound", "()Z"⟩, 7), (⟨"BlueBag$CoastReader", "readRule", "(ILBlueBag$Rule;)Z"⟩, 7), (⟨"BlueBag$RuleReader", "readExpr", "(I)Z"⟩, 3), (⟨"BlueBag$RuleReader", "readAnd", "(I)Z"⟩, 3), (⟨"BlueBag$RuleReader", "readNot", "(I)Z"⟩, 3), (⟨"BlueBag$RuleReader", "readTest", "(I)Z"⟩, 3), (⟨"BlueBag$RuleReader", "readSum", "(I)Z"⟩, 3), (⟨"BlueBag$RuleReader", "readProduct", "(I)Z"⟩, 3), (⟨"BlueBag$RuleReader", "readPart", "(I)Z"⟩, 3), (⟨"BlueBag$RuleReader", "valueHere", "()I"⟩, 3), (⟨"BlueBag", "needCell", "(I)V"⟩, 13)]
theorem lw_r2 : ∀ q ∈ lw_privs_2, lw_okq q := List.forall_mem_cons.mpr ⟨lw_p16, List.forall_mem_cons.mpr ⟨lw_p17, List.forall_mem_cons.mpr ⟨lw_p18, List.forall_mem_cons.mpr ⟨lw_p19, List.forall_mem_cons.mpr ⟨lw_p20, List.forall_mem_cons.mpr ⟨lw_p21, List.forall_mem_cons.mpr ⟨lw_p22, List.forall_mem_cons.mpr ⟨lw_p23, List.forall_mem_cons.mpr ⟨lw_p24, List.forall_mem_cons.mpr ⟨lw_p25, List.forall_mem_cons.mpr ⟨lw_p26, List.forall_mem_cons.mpr ⟨lw_p27, List.forall_mem_cons.mpr ⟨lw_p28, List.forall_mem_cons.mpr ⟨lw_p29, List.forall_mem_cons.mpr ⟨lw_p30, List.forall_mem_cons.mpr ⟨lw_p31, fun _ h => absurd h List.not_mem_nil⟩⟩⟩⟩⟩⟩⟩⟩⟩⟩⟩⟩⟩⟩⟩⟩
theorem lw_p32 : lw_okq (⟨"BlueBag$Sky", "besideWithin", "(II)I"⟩, 13) := ⟨⟨by decide +kernel, by decide +kernel⟩, List.mem_of_getElem? (i := 151) (by decide +kernel), List.mem_of_getElem? (i := 1017) (by decide +kernel), List.mem_of_getElem? (i := 1018) (by decide +kernel)⟩
theorem lw_p33 : lw_okq (⟨"BlueBag", "needGirl", "(I)V"⟩, 13) := ⟨⟨by decide +kernel, by decide +kernel⟩, List.mem_of_getElem? (i := 28) (by decide +kernel), List.mem_of_getElem? (i := 1031) (by decide +kernel), List.mem_of_getElem? (i := 1032) (by decide +kernel)⟩
theorem lw_p34 : lw_okq (⟨"BlueBag", "needWithin", "(III)V"⟩, 13) := ⟨⟨by decide +kernel, by decide +kernel⟩, List.mem_of_getElem? (i := 28) (by decide +kernel), List.mem_of_getElem? (i := 1071) (by decide +kernel), List.mem_of_getElem? (i := 1072) (by decide +kernel)⟩
theorem lw_p35 : lw_okq (⟨"BlueBag", "needWhat", "(II)V"⟩, 13) := ⟨⟨by decide +kernel, by decide +kernel⟩, List.mem_of_getElem? (i := 28) (by decide +kernel), List.mem_of_getElem? (i := 1082) (by decide +kernel), List.mem_of_getElem? (i := 1083) (by decide +kernel)⟩
theorem lw_p36 : lw_okq (⟨"BlueBag$Sending", "fill", "(III)V"⟩, 6) := ⟨⟨by decide +kernel, by decide +kernel⟩, List.mem_of_getElem? (i := 336) (by decide +kernel), List.mem_of_getElem? (i := 1167) (by decide +kernel), List.mem_of_getElem? (i := 1168) (by decide +kernel)⟩
theorem lw_p37 : lw_okq (⟨"BlueBag", "wouldFit", "(II)Z"⟩, 13) := ⟨⟨by decide +kernel, by decide +kernel⟩, List.mem_of_getElem? (i := 28) (by decide +kernel), List.mem_of_getElem? (i := 1234) (by decide +kernel), List.mem_of_getElem? (i := 1235) (by decide +kernel)⟩
theorem lw_p38 : lw_okq (⟨"BlueBag", "clearBlues", "()V"⟩, 13) := ⟨⟨by decide +kernel, by decide +kernel⟩, List.mem_of_getElem? (i := 28) (by decide +kernel), List.mem_of_getElem? (i := 1256) (by decide +kernel), List.mem_of_getElem? (i := 1257) (by decide +kernel)⟩
theorem lw_p39 : lw_okq (⟨"BlueBag", "gatherBlues", "(II)V"⟩, 13) := ⟨⟨by decide +kernel, by decide +kernel⟩, List.mem_of_getElem? (i := 28) (by decide +kernel), List.mem_of_getElem? (i := 1260) (by decide +kernel), List.mem_of_getElem? (i := 1261) (by decide +kernel)⟩
theorem lw_p40 : lw_okq (⟨"BlueBag", "unlikeBlues", "(I)I"⟩, 13) := ⟨⟨by decide +kernel, by decide +kernel⟩, List.mem_of_getElem? (i := 28) (by decide +kernel), List.mem_of_getElem? (i := 1264) (by decide +kernel), List.mem_of_getElem? (i := 1265) (by decide +kernel)⟩
theorem lw_p41 : lw_okq (⟨"BlueBag", "playAll", "(II)V"⟩, 13) := ⟨⟨by decide +kernel, by decide +kernel⟩, List.mem_of_getElem? (i := 28) (by decide +kernel), List.mem_of_getElem? (i := 1281) (by decide +kernel), List.mem_of_getElem? (i := 1282) (by decide +kernel)⟩
theorem lw_p42 : lw_okq (⟨"BlueBag", "gainAt", "(III)I"⟩, 13) := ⟨⟨by decide +kernel, by decide +kernel⟩, List.mem_of_getElem? (i := 28) (by decide +kernel), List.mem_of_getElem? (i := 1285) (by decide +kernel), List.mem_of_getElem? (i := 1286) (by decide +kernel)⟩
theorem lw_p43 : lw_okq (⟨"BlueBag", "drawAhead", "()V"⟩, 13) := ⟨⟨by decide +kernel, by decide +kernel⟩, List.mem_of_getElem? (i := 28) (by decide +kernel), List.mem_of_getElem? (i := 1296) (by decide +kernel), List.mem_of_getElem? (i := 1297) (by decide +kernel)⟩
theorem lw_p44 : lw_okq (⟨"BlueBagModel", "begin", "(I)V"⟩, 64) := ⟨⟨by decide +kernel, by decide +kernel⟩, List.mem_of_getElem? (i := 1306) (by decide +kernel), List.mem_of_getElem? (i := 1322) (by decide +kernel), List.mem_of_getElem? (i := 1323) (by decide +kernel)⟩
theorem lw_p45 : lw_okq (⟨"BlueBagModel", "fail", "(I)I"⟩, 64) := ⟨⟨by decide +kernel, by decide +kernel⟩, List.mem_of_getElem? (i := 1306) (by decide +kernel), List.mem_of_getElem? (i := 1531) (by decide +kernel), List.mem_of_getElem? (i := 1532) (by decide +kernel)⟩
theorem lw_p46 : lw_okq (⟨"BlueBagModel", "stepOn", "()V"⟩, 64) := ⟨⟨by decide +kernel, by decide +kernel⟩, List.mem_of_getElem? (i := 1306) (by decide +kernel), List.mem_of_getElem? (i := 1535) (by decide +kernel), List.mem_of_getElem? (i := 1536) (by decide +kernel)⟩
theorem lw_p47 : lw_okq (⟨"BlueBagModel", "byteAt", "(I)I"⟩, 64) := ⟨⟨by decide +kernel, by decide +kernel⟩, List.mem_of_getElem? (i := 1306) (by decide +kernel), List.mem_of_getElem? (i := 1539) (by decide +kernel), List.mem_of_getElem? (i := 1540) (by decide +kernel)⟩
def lw_privs_3 : List (MethodName × Nat) := [(⟨"BlueBag$Sky", "besideWithin", "(II)I"⟩, 13), (⟨"BlueBag", "needGirl", "(I)V"⟩, 13), (⟨"BlueBag", "needWithin", "(III)V"⟩, 13), (⟨"BlueBag", "needWhat", "(II)V"⟩, 13), (⟨"BlueBag$Sending", "fill", "(III)V"⟩, 6), (⟨"BlueBag", "wouldFit", "(II)Z"⟩, 13), (⟨"BlueBag", "clearBlues", "()V"⟩, 13), (⟨"BlueBag", "gatherBlues", "(II)V"⟩, 13), (⟨"BlueBag", "unlikeBlues", "(I)I"⟩, 13), (⟨"BlueBag", "playAll", "(II)V"⟩, 13), (⟨"BlueBag", "gainAt", "(III)I"⟩, 13), (⟨"BlueBag", "drawAhead", "()V"⟩, 13), (⟨"BlueBagModel", "begin", "(I)V"⟩, 64), (⟨"BlueBagModel", "fail", "(I)I"⟩, 64), (⟨"BlueBagModel", "stepOn", "()V"⟩, 64), (⟨"BlueBagModel", "byteAt", "(I)I"⟩, 64)]
theorem lw_r3 : ∀ q ∈ lw_privs_3, lw_okq q := List.forall_mem_cons.mpr ⟨lw_p32, List.forall_mem_cons.mpr ⟨lw_p33, List.forall_mem_cons.mpr ⟨lw_p34, List.forall_mem_cons.mpr ⟨lw_p35, List.forall_mem_cons.mpr ⟨lw_p36, List.forall_mem_cons.mpr ⟨lw_p37, List.forall_mem_cons.mpr ⟨lw_p38, List.forall_mem_cons.mpr ⟨lw_p39, List.forall_mem_cons.mpr ⟨lw_p40, List.forall_mem_cons.mpr ⟨lw_p41, List.forall_mem_cons.mpr ⟨lw_p42, List.forall_mem_cons.mpr ⟨lw_p43, List.forall_mem_cons.mpr ⟨lw_p44, List.forall_mem_cons.mpr ⟨lw_p45, List.forall_mem_cons.mpr ⟨lw_p46, List.forall_mem_cons.mpr ⟨lw_p47, fun _ h => absurd h List.not_mem_nil⟩⟩⟩⟩⟩⟩⟩⟩⟩⟩⟩⟩⟩⟩⟩⟩
theorem lw_p48 : lw_okq (⟨"BlueBagModel", "readLine", "(I)I"⟩, 64) := ⟨⟨by decide +kernel, by decide +kernel⟩, List.mem_of_getElem? (i := 1306) (by decide +kernel), List.mem_of_getElem? (i := 1554) (by decide +kernel), List.mem_of_getElem? (i := 1555) (by decide +kernel)⟩
theorem lw_p49 : lw_okq (⟨"BlueBagModel", "which", "([Ljava/lang/String;)I"⟩, 64) := ⟨⟨by decide +kernel, by decide +kernel⟩, List.mem_of_getElem? (i := 1306) (by decide +kernel), List.mem_of_getElem? (i := 1558) (by decide +kernel), List.mem_of_getElem? (i := 1559) (by decide +kernel)⟩
theorem lw_p50 : lw_okq (⟨"BlueBagModel", "is", "(Ljava/lang/String;)Z"⟩, 64) := ⟨⟨by decide +kernel, by decide +kernel⟩, List.mem_of_getElem? (i := 1306) (by decide +kernel), List.mem_of_getElem? (i := 1562) (by decide +kernel), List.mem_of_getElem? (i := 1563) (by decide +kernel)⟩
theorem lw_p51 : lw_okq (⟨"BlueBagModel", "wrong", "(I)V"⟩, 64) := ⟨⟨by decide +kernel, by decide +kernel⟩, List.mem_of_getElem? (i := 1306) (by decide +kernel), List.mem_of_getElem? (i := 1574) (by decide +kernel), List.mem_of_getElem? (i := 1575) (by decide +kernel)⟩
theorem lw_p52 : lw_okq (⟨"BlueBagModel", "sayOnce", "(I)V"⟩, 64) := ⟨⟨by decide +kernel, by decide +kernel⟩, List.mem_of_getElem? (i := 1306) (by decide +kernel), List.mem_of_getElem? (i := 1578) (by decide +kernel), List.mem_of_getElem? (i := 1579) (by decide +kernel)⟩
theorem lw_p53 : lw_okq (⟨"BlueBagModel", "saySky", "()V"⟩, 64) := ⟨⟨by decide +kernel, by decide +kernel⟩, List.mem_of_getElem? (i := 1306) (by decide +kernel), List.mem_of_getElem? (i := 1582) (by decide +kernel), List.mem_of_getElem? (i := 1583) (by decide +kernel)⟩
theorem lw_p54 : lw_okq (⟨"BlueBagModel", "readNumber", "(II)I"⟩, 64) := ⟨⟨by decide +kernel, by decide +kernel⟩, List.mem_of_getElem? (i := 1306) (by decide +kernel), List.mem_of_getElem? (i := 1586) (by decide +kernel), List.mem_of_getElem? (i := 1587) (by decide +kernel)⟩
theorem lw_p55 : lw_okq (⟨"BlueBagModel", "numberNow", "(II)I"⟩, 64) := ⟨⟨by decide +kernel, by decide +kernel⟩, List.mem_of_getElem? (i := 1306) (by decide +kernel), List.mem_of_getElem? (i := 1590) (by decide +kernel), List.mem_of_getElem? (i := 1591) (by decide +kernel)⟩
theorem lw_p56 : lw_okq (⟨"BlueBagModel", "sayRule", "(Z)V"⟩, 64) := ⟨⟨by decide +kernel, by decide +kernel⟩, List.mem_of_getElem? (i := 1306) (by decide +kernel), List.mem_of_getElem? (i := 1594) (by decide +kernel), List.mem_of_getElem? (i := 1595) (by decide +kernel)⟩
theorem lw_p57 : lw_okq (⟨"BlueBagModel", "readExpression", "(I)V"⟩, 64) := ⟨⟨by decide +kernel, by decide +kernel⟩, List.mem_of_getElem? (i := 1306) (by decide +kernel), List.mem_of_getElem? (i := 1598) (by decide +kernel), List.mem_of_getElem? (i := 1599) (by decide +kernel)⟩
theorem lw_p58 : lw_okq (⟨"BlueBagModel", "isMarked", "(I)Z"⟩, 64) := ⟨⟨by decide +kernel, by decide +kernel⟩, List.mem_of_getElem? (i := 1306) (by decide +kernel), List.mem_of_getElem? (i := 1602) (by decide +kernel), List.mem_of_getElem? (i := 1603) (by decide +kernel)⟩
theorem lw_p59 : lw_okq (⟨"BlueBagModel", "readAnd", "(I)V"⟩, 64) := ⟨⟨by decide +kernel, by decide +kernel⟩, List.mem_of_getElem? (i := 1306) (by decide +kernel), List.mem_of_getElem? (i := 1606) (by decide +kernel), List.mem_of_getElem? (i := 1607) (by decide +kernel)⟩
theorem lw_p60 : lw_okq (⟨"BlueBagModel", "readNot", "(I)V"⟩, 64) := ⟨⟨by decide +kernel, by decide +kernel⟩, List.mem_of_getElem? (i := 1306) (by decide +kernel), List.mem_of_getElem? (i := 1610) (by decide +kernel), List.mem_of_getElem? (i := 1611) (by decide +kernel)⟩
theorem lw_p61 : lw_okq (⟨"BlueBagModel", "readSum", "(I)V"⟩, 64) := ⟨⟨by decide +kernel, by decide +kernel⟩, List.mem_of_getElem? (i := 1306) (by decide +kernel), List.mem_of_getElem? (i := 1615) (by decide +kernel), List.mem_of_getElem? (i := 1616) (by decide +kernel)⟩
theorem lw_p62 : lw_okq (⟨"BlueBagModel", "readProduct", "(I)V"⟩, 64) := ⟨⟨by decide +kernel, by decide +kernel⟩, List.mem_of_getElem? (i := 1306) (by decide +kernel), List.mem_of_getElem? (i := 1619) (by decide +kernel), List.mem_of_getElem? (i := 1620) (by decide +kernel)⟩
theorem lw_p63 : lw_okq (⟨"BlueBagModel", "readPart", "(I)V"⟩, 64) := ⟨⟨by decide +kernel, by decide +kernel⟩, List.mem_of_getElem? (i := 1306) (by decide +kernel), List.mem_of_getElem? (i := 1623) (by decide +kernel), List.mem_of_getElem? (i := 1624) (by decide +kernel)⟩
def lw_privs_4 : List (MethodName × Nat) := [(⟨"BlueBagModel", "readLine", "(I)I"⟩, 64), (⟨"BlueBagModel", "which", "([Ljava/lang/String;)I"⟩, 64), (⟨"BlueBagModel", "is", "(Ljava/lang/String;)Z"⟩, 64), (⟨"BlueBagModel", "wrong", "(I)V"⟩, 64), (⟨"BlueBagModel", "sayOnce", "(I)V"⟩, 64), (⟨"BlueBagModel", "saySky", "()V"⟩, 64), (⟨"BlueBagModel", "readNumber", "(II)I"⟩, 64), (⟨"BlueBagModel", "numberNow", "(II)I"⟩, 64), (⟨"BlueBagModel", "sayRule", "(Z)V"⟩, 64), (⟨"BlueBagModel", "readExpression", "(I)V"⟩, 64), (⟨"BlueBagModel", "isMarked", "(I)Z"⟩, 64), (⟨"BlueBagModel", "readAnd", "(I)V"⟩, 64), (⟨"BlueBagModel", "readNot", "(I)V"⟩, 64), (⟨"BlueBagModel", "readSum", "(I)V"⟩, 64), (⟨"BlueBagModel", "readProduct", "(I)V"⟩, 64), (⟨"BlueBagModel", "readPart", "(I)V"⟩, 64)]
theorem lw_r4 : ∀ q ∈ lw_privs_4, lw_okq q := List.forall_mem_cons.mpr ⟨lw_p48, List.forall_mem_cons.mpr ⟨lw_p49, List.forall_mem_cons.mpr ⟨lw_p50, List.forall_mem_cons.mpr ⟨lw_p51, List.forall_mem_cons.mpr ⟨lw_p52, List.forall_mem_cons.mpr ⟨lw_p53, List.forall_mem_cons.mpr ⟨lw_p54, List.forall_mem_cons.mpr ⟨lw_p55, List.forall_mem_cons.mpr ⟨lw_p56, List.forall_mem_cons.mpr ⟨lw_p57, List.forall_mem_cons.mpr ⟨lw_p58, List.forall_mem_cons.mpr ⟨lw_p59, List.forall_mem_cons.mpr ⟨lw_p60, List.forall_mem_cons.mpr ⟨lw_p61, List.forall_mem_cons.mpr ⟨lw_p62, List.forall_mem_cons.mpr ⟨lw_p63, fun _ h => absurd h List.not_mem_nil⟩⟩⟩⟩⟩⟩⟩⟩⟩⟩⟩⟩⟩⟩⟩⟩
theorem lw_p64 : lw_okq (⟨"BlueBagModel", "lay", "(I)V"⟩, 64) := ⟨⟨by decide +kernel, by decide +kernel⟩, List.mem_of_getElem? (i := 1306) (by decide +kernel), List.mem_of_getElem? (i := 1627) (by decide +kernel), List.mem_of_getElem? (i := 1628) (by decide +kernel)⟩
theorem lw_p65 : lw_okq (⟨"BlueBagModel", "mark", "(I)V"⟩, 64) := ⟨⟨by decide +kernel, by decide +kernel⟩, List.mem_of_getElem? (i := 1306) (by decide +kernel), List.mem_of_getElem? (i := 1631) (by decide +kernel), List.mem_of_getElem? (i := 1632) (by decide +kernel)⟩
theorem lw_p66 : lw_okq (⟨"BlueBagModel", "sayWoman", "(I)V"⟩, 64) := ⟨⟨by decide +kernel, by decide +kernel⟩, List.mem_of_getElem? (i := 1306) (by decide +kernel), List.mem_of_getElem? (i := 1637) (by decide +kernel), List.mem_of_getElem? (i := 1638) (by decide +kernel)⟩
theorem lw_p67 : lw_okq (⟨"BlueBagModel", "cellNow", "(I)I"⟩, 64) := ⟨⟨by decide +kernel, by decide +kernel⟩, List.mem_of_getElem? (i := 1306) (by decide +kernel), List.mem_of_getElem? (i := 1641) (by decide +kernel), List.mem_of_getElem? (i := 1642) (by decide +kernel)⟩
theorem lw_p68 : lw_okq (⟨"BlueBagModel", "sayBlue", "()V"⟩, 64) := ⟨⟨by decide +kernel, by decide +kernel⟩, List.mem_of_getElem? (i := 1306) (by decide +kernel), List.mem_of_getElem? (i := 1648) (by decide +kernel), List.mem_of_getElem? (i := 1649) (by decide +kernel)⟩
theorem lw_p69 : lw_okq (⟨"BlueBagModel", "sayPegs", "()V"⟩, 64) := ⟨⟨by decide +kernel, by decide +kernel⟩, List.mem_of_getElem? (i := 1306) (by decide +kernel), List.mem_of_getElem? (i := 1653) (by decide +kernel), List.mem_of_getElem? (i := 1654) (by decide +kernel)⟩
theorem lw_p70 : lw_okq (⟨"BlueBagModel", "takeOver", "()V"⟩, 64) := ⟨⟨by decide +kernel, by decide +kernel⟩, List.mem_of_getElem? (i := 1306) (by decide +kernel), List.mem_of_getElem? (i := 1657) (by decide +kernel), List.mem_of_getElem? (i := 1658) (by decide +kernel)⟩
theorem lw_p71 : lw_okq (⟨"BlueBagModel", "cells", "()I"⟩, 64) := ⟨⟨by decide +kernel, by decide +kernel⟩, List.mem_of_getElem? (i := 1306) (by decide +kernel), List.mem_of_getElem? (i := 1672) (by decide +kernel), List.mem_of_getElem? (i := 1673) (by decide +kernel)⟩
theorem lw_p72 : lw_okq (⟨"BlueBagModel", "allBlue", "()I"⟩, 64) := ⟨⟨by decide +kernel, by decide +kernel⟩, List.mem_of_getElem? (i := 1306) (by decide +kernel), List.mem_of_getElem? (i := 1676) (by decide +kernel), List.mem_of_getElem? (i := 1677) (by decide +kernel)⟩
theorem lw_p73 : lw_okq (⟨"BlueBagModel", "isCell", "(I)Z"⟩, 64) := ⟨⟨by decide +kernel, by decide +kernel⟩, List.mem_of_getElem? (i := 1306) (by decide +kernel), List.mem_of_getElem? (i := 1684) (by decide +kernel), List.mem_of_getElem? (i := 1685) (by decide +kernel)⟩
theorem lw_p74 : lw_okq (⟨"BlueBagModel", "besideOf", "(I)I"⟩, 64) := ⟨⟨by decide +kernel, by decide +kernel⟩, List.mem_of_getElem? (i := 1306) (by decide +kernel), List.mem_of_getElem? (i := 1691) (by decide +kernel), List.mem_of_getElem? (i := 1692) (by decide +kernel)⟩
theorem lw_p75 : lw_okq (⟨"BlueBagModel", "farOf", "(II)I"⟩, 64) := ⟨⟨by decide +kernel, by decide +kernel⟩, List.mem_of_getElem? (i := 1306) (by decide +kernel), List.mem_of_getElem? (i := 1695) (by decide +kernel), List.mem_of_getElem? (i := 1696) (by decide +kernel)⟩
theorem lw_p76 : lw_okq (⟨"BlueBagModel", "columnOf", "(I)I"⟩, 64) := ⟨⟨by decide +kernel, by decide +kernel⟩, List.mem_of_getElem? (i := 1306) (by decide +kernel), List.mem_of_getElem? (i := 1699) (by decide +kernel), List.mem_of_getElem? (i := 1700) (by decide +kernel)⟩
theorem lw_p77 : lw_okq (⟨"BlueBagModel", "rowOf", "(I)I"⟩, 64) := ⟨⟨by decide +kernel, by decide +kernel⟩, List.mem_of_getElem? (i := 1306) (by decide +kernel), List.mem_of_getElem? (i := 1704) (by decide +kernel), List.mem_of_getElem? (i := 1705) (by decide +kernel)⟩
theorem lw_p78 : lw_okq (⟨"BlueBagModel", "girlsAt", "(I)I"⟩, 64) := ⟨⟨by decide +kernel, by decide +kernel⟩, List.mem_of_getElem? (i := 1306) (by decide +kernel), List.mem_of_getElem? (i := 1708) (by decide +kernel), List.mem_of_getElem? (i := 1709) (by decide +kernel)⟩
theorem lw_p79 : lw_okq (⟨"BlueBagModel", "patchOf", "(II)I"⟩, 64) := ⟨⟨by decide +kernel, by decide +kernel⟩, List.mem_of_getElem? (i := 1306) (by decide +kernel), List.mem_of_getElem? (i := 1712) (by decide +kernel), List.mem_of_getElem? (i := 1713) (by decide +kernel)⟩
def lw_privs_5 : List (MethodName × Nat) := [(⟨"BlueBagModel", "lay", "(I)V"⟩, 64), (⟨"BlueBagModel", "mark", "(I)V"⟩, 64), (⟨"BlueBagModel", "sayWoman", "(I)V"⟩, 64), (⟨"BlueBagModel", "cellNow", "(I)I"⟩, 64), (⟨"BlueBagModel", "sayBlue", "()V"⟩, 64), (⟨"BlueBagModel", "sayPegs", "()V"⟩, 64), (⟨"BlueBagModel", "takeOver", "()V"⟩, 64), (⟨"BlueBagModel", "cells", "()I"⟩, 64), (⟨"BlueBagModel", "allBlue", "()I"⟩, 64), (⟨"BlueBagModel", "isCell", "(I)Z"⟩, 64), (⟨"BlueBagModel", "besideOf", "(I)I"⟩, 64), (⟨"BlueBagModel", "farOf", "(II)I"⟩, 64), (⟨"BlueBagModel", "columnOf", "(I)I"⟩, 64), (⟨"BlueBagModel", "rowOf", "(I)I"⟩, 64), (⟨"BlueBagModel", "girlsAt", "(I)I"⟩, 64), (⟨"BlueBagModel", "patchOf", "(II)I"⟩, 64)]
theorem lw_r5 : ∀ q ∈ lw_privs_5, lw_okq q := List.forall_mem_cons.mpr ⟨lw_p64, List.forall_mem_cons.mpr ⟨lw_p65, List.forall_mem_cons.mpr ⟨lw_p66, List.forall_mem_cons.mpr ⟨lw_p67, List.forall_mem_cons.mpr ⟨lw_p68, List.forall_mem_cons.mpr ⟨lw_p69, List.forall_mem_cons.mpr ⟨lw_p70, List.forall_mem_cons.mpr ⟨lw_p71, List.forall_mem_cons.mpr ⟨lw_p72, List.forall_mem_cons.mpr ⟨lw_p73, List.forall_mem_cons.mpr ⟨lw_p74, List.forall_mem_cons.mpr ⟨lw_p75, List.forall_mem_cons.mpr ⟨lw_p76, List.forall_mem_cons.mpr ⟨lw_p77, List.forall_mem_cons.mpr ⟨lw_p78, List.forall_mem_cons.mpr ⟨lw_p79, fun _ h => absurd h List.not_mem_nil⟩⟩⟩⟩⟩⟩⟩⟩⟩⟩⟩⟩⟩⟩⟩⟩
theorem lw_p80 : lw_okq (⟨"BlueBagModel", "isGirl", "(I)Z"⟩, 64) := ⟨⟨by decide +kernel, by decide +kernel⟩, List.mem_of_getElem? (i := 1306) (by decide +kernel), List.mem_of_getElem? (i := 1720) (by decide +kernel), List.mem_of_getElem? (i := 1721) (by decide +kernel)⟩
theorem lw_p81 : lw_okq (⟨"BlueBagModel", "dyesOf", "(II)I"⟩, 64) := ⟨⟨by decide +kernel, by decide +kernel⟩, List.mem_of_getElem? (i := 1306) (by decide +kernel), List.mem_of_getElem? (i := 1725) (by decide +kernel), List.mem_of_getElem? (i := 1726) (by decide +kernel)⟩
theorem lw_p82 : lw_okq (⟨"BlueBagModel", "ask", "(I)V"⟩, 64) := ⟨⟨by decide +kernel, by decide +kernel⟩, List.mem_of_getElem? (i := 1306) (by decide +kernel), List.mem_of_getElem? (i := 1729) (by decide +kernel), List.mem_of_getElem? (i := 1730) (by decide +kernel)⟩
theorem lw_p83 : lw_okq (⟨"BlueBagModel", "blueBeside", "(I)I"⟩, 64) := ⟨⟨by decide +kernel, by decide +kernel⟩, List.mem_of_getElem? (i := 1306) (by decide +kernel), List.mem_of_getElem? (i := 1733) (by decide +kernel), List.mem_of_getElem? (i := 1734) (by decide +kernel)⟩
theorem lw_p84 : lw_okq (⟨"BlueBagModel", "valueNow", "([II)I"⟩, 64) := ⟨⟨by decide +kernel, by decide +kernel⟩, List.mem_of_getElem? (i := 1306) (by decide +kernel), List.mem_of_getElem? (i := 1737) (by decide +kernel), List.mem_of_getElem? (i := 1738) (by decide +kernel)⟩
theorem lw_p85 : lw_okq (⟨"BlueBagModel", "refuse", "(I)I"⟩, 64) := ⟨⟨by decide +kernel, by decide +kernel⟩, List.mem_of_getElem? (i := 1306) (by decide +kernel), List.mem_of_getElem? (i := 1749) (by decide +kernel), List.mem_of_getElem? (i := 1750) (by decide +kernel)⟩
theorem lw_p86 : lw_okq (⟨"BlueBagModel", "keep", "()V"⟩, 64) := ⟨⟨by decide +kernel, by decide +kernel⟩, List.mem_of_getElem? (i := 1306) (by decide +kernel), List.mem_of_getElem? (i := 1753) (by decide +kernel), List.mem_of_getElem? (i := 1754) (by decide +kernel)⟩
theorem lw_p87 : lw_okq (⟨"BlueBagModel", "pack", "([II)V"⟩, 64) := ⟨⟨by decide +kernel, by decide +kernel⟩, List.mem_of_getElem? (i := 1306) (by decide +kernel), List.mem_of_getElem? (i := 1757) (by decide +kernel), List.mem_of_getElem? (i := 1758) (by decide +kernel)⟩
theorem lw_p88 : lw_okq (⟨"BlueBagModel", "goOn", "(I)V"⟩, 64) := ⟨⟨by decide +kernel, by decide +kernel⟩, List.mem_of_getElem? (i := 1306) (by decide +kernel), List.mem_of_getElem? (i := 1761) (by decide +kernel), List.mem_of_getElem? (i := 1762) (by decide +kernel)⟩
theorem lw_p89 : lw_okq (⟨"BlueBagModel", "aDay", "()V"⟩, 64) := ⟨⟨by decide +kernel, by decide +kernel⟩, List.mem_of_getElem? (i := 1306) (by decide +kernel), List.mem_of_getElem? (i := 1765) (by decide +kernel), List.mem_of_getElem? (i := 1766) (by decide +kernel)⟩
theorem lw_p90 : lw_okq (⟨"BlueBagModel", "swish", "(II)V"⟩, 64) := ⟨⟨by decide +kernel, by decide +kernel⟩, List.mem_of_getElem? (i := 1306) (by decide +kernel), List.mem_of_getElem? (i := 1769) (by decide +kernel), List.mem_of_getElem? (i := 1770) (by decide +kernel)⟩
theorem lw_p91 : lw_okq (⟨"BlueBagModel", "dye", "(II)V"⟩, 64) := ⟨⟨by decide +kernel, by decide +kernel⟩, List.mem_of_getElem? (i := 1306) (by decide +kernel), List.mem_of_getElem? (i := 1773) (by decide +kernel), List.mem_of_getElem? (i := 1774) (by decide +kernel)⟩
theorem lw_p92 : lw_okq (⟨"BlueBagModel", "fadesOf", "(I)I"⟩, 64) := ⟨⟨by decide +kernel, by decide +kernel⟩, List.mem_of_getElem? (i := 1306) (by decide +kernel), List.mem_of_getElem? (i := 1780) (by decide +kernel), List.mem_of_getElem? (i := 1781) (by decide +kernel)⟩
theorem lw_p93 : lw_okq (⟨"BlueBagModel", "failing", "(I)Z"⟩, 64) := ⟨⟨by decide +kernel, by decide +kernel⟩, List.mem_of_getElem? (i := 1306) (by decide +kernel), List.mem_of_getElem? (i := 1788) (by decide +kernel), List.mem_of_getElem? (i := 1789) (by decide +kernel)⟩
theorem lw_p94 : lw_okq (⟨"BlueBagModel", "unpack", "([II)V"⟩, 64) := ⟨⟨by decide +kernel, by decide +kernel⟩, List.mem_of_getElem? (i := 1306) (by decide +kernel), List.mem_of_getElem? (i := 1809) (by decide +kernel), List.mem_of_getElem? (i := 1810) (by decide +kernel)⟩
theorem lw_p95 : lw_okq (⟨"BlueBagModel", "uneven", "()I"⟩, 64) := ⟨⟨by decide +kernel, by decide +kernel⟩, List.mem_of_getElem? (i := 1306) (by decide +kernel), List.mem_of_getElem? (i := 1823) (by decide +kernel), List.mem_of_getElem? (i := 1824) (by decide +kernel)⟩
def lw_privs_6 : List (MethodName × Nat) := [(⟨"BlueBagModel", "isGirl", "(I)Z"⟩, 64), (⟨"BlueBagModel", "dyesOf", "(II)I"⟩, 64), (⟨"BlueBagModel", "ask", "(I)V"⟩, 64), (⟨"BlueBagModel", "blueBeside", "(I)I"⟩, 64), (⟨"BlueBagModel", "valueNow", "([II)I"⟩, 64), (⟨"BlueBagModel", "refuse", "(I)I"⟩, 64), (⟨"BlueBagModel", "keep", "()V"⟩, 64), (⟨"BlueBagModel", "pack", "([II)V"⟩, 64), (⟨"BlueBagModel", "goOn", "(I)V"⟩, 64), (⟨"BlueBagModel", "aDay", "()V"⟩, 64), (⟨"BlueBagModel", "swish", "(II)V"⟩, 64), (⟨"BlueBagModel", "dye", "(II)V"⟩, 64), (⟨"BlueBagModel", "fadesOf", "(I)I"⟩, 64), (⟨"BlueBagModel", "failing", "(I)Z"⟩, 64), (⟨"BlueBagModel", "unpack", "([II)V"⟩, 64), (⟨"BlueBagModel", "uneven", "()I"⟩, 64)]
theorem lw_r6 : ∀ q ∈ lw_privs_6, lw_okq q := List.forall_mem_cons.mpr ⟨lw_p80, List.forall_mem_cons.mpr ⟨lw_p81, List.forall_mem_cons.mpr ⟨lw_p82, List.forall_mem_cons.mpr ⟨lw_p83, List.forall_mem_cons.mpr ⟨lw_p84, List.forall_mem_cons.mpr ⟨lw_p85, List.forall_mem_cons.mpr ⟨lw_p86, List.forall_mem_cons.mpr ⟨lw_p87, List.forall_mem_cons.mpr ⟨lw_p88, List.forall_mem_cons.mpr ⟨lw_p89, List.forall_mem_cons.mpr ⟨lw_p90, List.forall_mem_cons.mpr ⟨lw_p91, List.forall_mem_cons.mpr ⟨lw_p92, List.forall_mem_cons.mpr ⟨lw_p93, List.forall_mem_cons.mpr ⟨lw_p94, List.forall_mem_cons.mpr ⟨lw_p95, fun _ h => absurd h List.not_mem_nil⟩⟩⟩⟩⟩⟩⟩⟩⟩⟩⟩⟩⟩⟩⟩⟩
theorem lw_p96 : lw_okq (⟨"BlueBagModel", "extreme", "(Z)I"⟩, 64) := ⟨⟨by decide +kernel, by decide +kernel⟩, List.mem_of_getElem? (i := 1306) (by decide +kernel), List.mem_of_getElem? (i := 1827) (by decide +kernel), List.mem_of_getElem? (i := 1828) (by decide +kernel)⟩
theorem lw_p97 : lw_okq (⟨"BlueBagModel", "streakFrom", "(I)I"⟩, 64) := ⟨⟨by decide +kernel, by decide +kernel⟩, List.mem_of_getElem? (i := 1306) (by decide +kernel), List.mem_of_getElem? (i := 1858) (by decide +kernel), List.mem_of_getElem? (i := 1859) (by decide +kernel)⟩
theorem lw_p98 : lw_okq (⟨"BlueBagModel", "unevenNext", "()I"⟩, 64) := ⟨⟨by decide +kernel, by decide +kernel⟩, List.mem_of_getElem? (i := 1306) (by decide +kernel), List.mem_of_getElem? (i := 1879) (by decide +kernel), List.mem_of_getElem? (i := 1880) (by decide +kernel)⟩
theorem lw_p99 : lw_okq (⟨"BlueBagModel", "tellLeast", "(I)V"⟩, 64) := ⟨⟨by decide +kernel, by decide +kernel⟩, List.mem_of_getElem? (i := 1306) (by decide +kernel), List.mem_of_getElem? (i := 1907) (by decide +kernel), List.mem_of_getElem? (i := 1908) (by decide +kernel)⟩
theorem lw_p100 : lw_okq (⟨"BlueBagModel", "with", "(III)I"⟩, 64) := ⟨⟨by decide +kernel, by decide +kernel⟩, List.mem_of_getElem? (i := 1306) (by decide +kernel), List.mem_of_getElem? (i := 1911) (by decide +kernel), List.mem_of_getElem? (i := 1912) (by decide +kernel)⟩
theorem lw_p101 : lw_okq (⟨"BlueBagModel", "isAsSeen", "()Z"⟩, 64) := ⟨⟨by decide +kernel, by decide +kernel⟩, List.mem_of_getElem? (i := 1306) (by decide +kernel), List.mem_of_getElem? (i := 1924) (by decide +kernel), List.mem_of_getElem? (i := 1925) (by decide +kernel)⟩
theorem lw_p102 : lw_okq (⟨"BlueBagModel", "tellFits", "()V"⟩, 64) := ⟨⟨by decide +kernel, by decide +kernel⟩, List.mem_of_getElem? (i := 1306) (by decide +kernel), List.mem_of_getElem? (i := 1928) (by decide +kernel), List.mem_of_getElem? (i := 1929) (by decide +kernel)⟩
theorem lw_p103 : lw_okq (⟨"BlueBagModel", "unlike", "(I)I"⟩, 64) := ⟨⟨by decide +kernel, by decide +kernel⟩, List.mem_of_getElem? (i := 1306) (by decide +kernel), List.mem_of_getElem? (i := 1936) (by decide +kernel), List.mem_of_getElem? (i := 1937) (by decide +kernel)⟩
theorem lw_p104 : lw_okq (⟨"BlueBagModel", "tellGains", "(II)V"⟩, 64) := ⟨⟨by decide +kernel, by decide +kernel⟩, List.mem_of_getElem? (i := 1306) (by decide +kernel), List.mem_of_getElem? (i := 1948) (by decide +kernel), List.mem_of_getElem? (i := 1949) (by decide +kernel)⟩
theorem lw_p105 : lw_okq (⟨"BlueBagModel", "something", "()V"⟩, 64) := ⟨⟨by decide +kernel, by decide +kernel⟩, List.mem_of_getElem? (i := 1306) (by decide +kernel), List.mem_of_getElem? (i := 1956) (by decide +kernel), List.mem_of_getElem? (i := 1957) (by decide +kernel)⟩
theorem lw_p106 : lw_okq (⟨"BlueBagModel", "drawOf", "(I)I"⟩, 64) := ⟨⟨by decide +kernel, by decide +kernel⟩, List.mem_of_getElem? (i := 1306) (by decide +kernel), List.mem_of_getElem? (i := 1960) (by decide +kernel), List.mem_of_getElem? (i := 1961) (by decide +kernel)⟩
def lw_privs_7 : List (MethodName × Nat) := [(⟨"BlueBagModel", "extreme", "(Z)I"⟩, 64), (⟨"BlueBagModel", "streakFrom", "(I)I"⟩, 64), (⟨"BlueBagModel", "unevenNext", "()I"⟩, 64), (⟨"BlueBagModel", "tellLeast", "(I)V"⟩, 64), (⟨"BlueBagModel", "with", "(III)I"⟩, 64), (⟨"BlueBagModel", "isAsSeen", "()Z"⟩, 64), (⟨"BlueBagModel", "tellFits", "()V"⟩, 64), (⟨"BlueBagModel", "unlike", "(I)I"⟩, 64), (⟨"BlueBagModel", "tellGains", "(II)V"⟩, 64), (⟨"BlueBagModel", "something", "()V"⟩, 64), (⟨"BlueBagModel", "drawOf", "(I)I"⟩, 64)]
theorem lw_r7 : ∀ q ∈ lw_privs_7, lw_okq q := List.forall_mem_cons.mpr ⟨lw_p96, List.forall_mem_cons.mpr ⟨lw_p97, List.forall_mem_cons.mpr ⟨lw_p98, List.forall_mem_cons.mpr ⟨lw_p99, List.forall_mem_cons.mpr ⟨lw_p100, List.forall_mem_cons.mpr ⟨lw_p101, List.forall_mem_cons.mpr ⟨lw_p102, List.forall_mem_cons.mpr ⟨lw_p103, List.forall_mem_cons.mpr ⟨lw_p104, List.forall_mem_cons.mpr ⟨lw_p105, List.forall_mem_cons.mpr ⟨lw_p106, fun _ h => absurd h List.not_mem_nil⟩⟩⟩⟩⟩⟩⟩⟩⟩⟩⟩
def lw_privs : List (MethodName × Nat) := lw_privs_1 ++ (lw_privs_2 ++ (lw_privs_3 ++ (lw_privs_4 ++ (lw_privs_5 ++ (lw_privs_6 ++ (lw_privs_7))))))
def lw_tbl : List Cond := k2_sels lw_privs ++ tables_1
theorem lw_privs_ok : ∀ q ∈ lw_privs, lw_okq q := by
  show ∀ q ∈ lw_privs_1 ++ (lw_privs_2 ++ (lw_privs_3 ++ (lw_privs_4 ++ (lw_privs_5 ++ (lw_privs_6 ++ (lw_privs_7)))))), lw_okq q
  exact List.forall_mem_append.mpr ⟨lw_r1, List.forall_mem_append.mpr ⟨lw_r2, List.forall_mem_append.mpr ⟨lw_r3, List.forall_mem_append.mpr ⟨lw_r4, List.forall_mem_append.mpr ⟨lw_r5, List.forall_mem_append.mpr ⟨lw_r6, lw_r7⟩⟩⟩⟩⟩⟩

/-! ===== BEGIN words of one list among another's, by their places ===== -/
theorem goodIn_r {big : List Cond} (ws : List Cond) (ps : List Nat) (hp : ws = ps.filterMap (fun i => big[i]?)) (h : ws.all goodWord = true) : GoodIn big ws := by
  intro w hw
  have h1 := List.all_eq_true.mp h w hw
  rw [hp] at hw
  obtain ⟨i, -, hi⟩ := List.mem_filterMap.mp hw
  have hm : w ∈ big := by first | exact List.mem_of_getElem? hi | exact List.getElem?_mem hi
  exact ⟨hm, good_of_word h1⟩
theorem goodIn_app {big a b : List Cond} (ha : GoodIn big a) (hb : GoodIn big b) : GoodIn big (a ++ b) := fun w h => (List.mem_append.mp h).elim (ha w) (hb w)
theorem goodIn_ca {big a b : List Cond} {c : Cond} (ha : GoodIn big (c :: a)) (hb : GoodIn big b) : GoodIn big (c :: (a ++ b)) := fun w h => (List.mem_cons.mp h).elim (fun e => ha w (List.mem_cons.mpr (Or.inl e))) (fun h => (List.mem_append.mp h).elim (fun h => ha w (List.mem_cons.mpr (Or.inr h))) (hb w))
theorem goodIn_sub {big ws : List Cond} (hm : ∀ w ∈ ws, w ∈ big) (h : ws.all goodWord = true) : GoodIn big ws := fun w hw => ⟨hm w hw, good_of_word (List.all_eq_true.mp h w hw)⟩
/-! ===== END ===== -/

/-! ===== BEGIN exceptions that leave a method, and their catching by the caller (launches without stack traces) ===== -/
section VXA
/-! The laws vx_back, vx_callV, vx_callS, vx_callSW, vx_throw0, vx_throwS follow proofs of the library, with one case more: JvmDerived/Free/Laws.lean (Back.of_free), Shelf42/LK1.lean (callV, callS), Shelf/KitTraced.lean (throwNew0V, throwNewS). -/
/-- where a method has thrown q: the class by its name, the cell, what was written, the world -/
def vx_T (XC : String → State → State → Prop) (st : State) (q : Addr) (t : State) (mc ms : Nat) (free : Addr → Prop) : Prop :=
  ∃ (E : String) (ce : Cell) (L : List Loc), XC E st t ∧ t.heap[q]? = some ce ∧ ce.vm = .none ∧ st.vm.findClass E = some ce.cls ∧ st.WarmedH t.vm ∧ st.sameButNew ({ t with vm := st.vm } : State) L mc ms ∧ ∀ z ∈ L, free z.base
def vx_Q (Qc : Array Value → State → Outcome → State → Prop) (XC : String → State → State → Prop) (mc ms : Nat) (free : Addr → Prop) : Array Value → State → Outcome → State → Prop := fun a st o t =>
  (Qc a st o t ∧ ∃ L, FrameEnd st o t L mc ms ∧ ∀ q ∈ L, free q.base) ∨ ∃ q, o = .threw q ∧ vx_T XC st q t mc ms free
/-- a callee that returns or throws -/
def vx_Met (l : Launch) (y : MethodName) (ws : List Cond) (rm : Room) (Pc : Array Value → State → Prop) (Qc : Array Value → State → Outcome → State → Prop) (XC : String → State → State → Prop) (mc ms : Nat) (free : Addr → Prop) : Prop :=
  MetFree l y (headSpec ws rm) Pc (fun _ _ _ _ _ => True) (vx_Q Qc XC mc ms free)
def vx_Post (XC : String → State → State → Prop) (mc ms : Nat) (free : Addr → Prop) : Pt → Array Value → Addr → Pt → Prop := fun A a q B =>
  ∃ (g : JFrame) (mk : MethodId) (t : State) (L : List Loc) (E : String) (ce : Cell), B.U.heap = t.heap ∧ B.U.vm = t.vm ∧ XC E (A.U.calling g mk a) t ∧ t.heap[q]? = some ce ∧ ce.vm = .none ∧ A.U.vm.findClass E = some ce.cls ∧ B.locs = A.locs ++ L ∧ (∀ z ∈ L, free z.base) ∧ B.cells = A.cells + mc ∧ B.slots = A.slots + ms
def vx_Back (l : Launch) (R : Room) (p : Program) (e : Env) (below : List Frame) (s : State) (sargs : Array Value) (y : MethodName) (len W9 : Nat)
    (Pre : Pt → Array Value → Prop) (Post : Pt → Array Value → Option Value → Pt → Prop) (PostX : Pt → Array Value → Addr → Pt → Prop) : Prop :=
  ∀ (m : MethodId) (meth : Method) (c : Code) (A : Pt) (g : JFrame) (ig : Instr) (mk : MethodId) (a : Array Value),
    Stand p l e R s m sargs below meth c A.U A.locs A.cells A.slots → g.method = m → g.locals.size = c.maxLocals → decode c.code g.pc = .ok (ig, len) →
    2 * g.monitorRoom + (g.stack.map fun v => v.category).sum ≤ W9 → A.U.methodNamed? y = some mk → Pre A a →
    (∃ (v : Option Value) (B : Pt), Stand p l e R s m sargs below meth c B.U B.locs B.cells B.slots ∧ Post A a v B ∧
      Steps p.tables e below (doInvoke e (A.U.setTop g) [] mk a).1 (B.U.setTop { g with pc := g.pc + len, stack := v.toList ++ g.stack })) ∨
    (∃ (q : Addr) (B : Pt), Stand p l e R s m sargs below meth c B.U B.locs B.cells B.slots ∧ PostX A a q B ∧
      Steps p.tables e below (doInvoke e (A.U.setTop g) [] mk a).1 ((B.U.setTop g).pushFrame (.throwing q)))
section Payer
variable {l : Launch} {R : Room} {p : Program} {e : Env} {below : List Frame} {s : State} {sargs : Array Value} {y : MethodName} {len W9 : Nat}
theorem vx_back {ws : List Cond} {rm : Room} {Pc : Array Value → State → Prop} {Qc : Array Value → State → Outcome → State → Prop} {XC : String → State → State → Prop} {mc ms : Nat} {free : Addr → Prop} {bytes : ByteArray} {maxL : Nat} {ret : Option FieldType}
    (hM : vx_Met l y ws rm Pc Qc XC mc ms free) (hblind : FrameBlind Pc) (hrc : rm.cells = mc) (hrs : rm.slots = ms)
    (hframes : rm.frames + 1 ≤ R.frames) (hlocals : W9 + (maxL + 11) + rm.locals ≤ R.locals)
    (hws : ∀ w ∈ ws, ∀ a' U, s.WarmedH U.vm → w.before a' U = true) (hcode : Cond.code y bytes maxL ret ∈ ws) (hinit : ∀ a' U, s.WarmedH U.vm → (Cond.initialized y.cls).before a' U = true) :
    vx_Back l R p e below s sargs y len W9 (PreOf R mc ms Pc) (PostOf Qc mc ms free) (vx_Post XC mc ms free) := by
  intro m meth c A g ig mk a X hg hsize hdg hW hn hp
  have h1 : (headSpec ws rm).pre.before a A.U = true := atoms_intro fun w hw => hws w hw _ _ X.warmed
  have h2 : (Cond.code y bytes maxL ret).before a A.U = true := hws _ hcode _ _ X.warmed
  have h3 : (Cond.initialized y.cls).before a A.U = true := hinit _ _ X.warmed
  have h4 : A.cells + (headSpec ws rm).room.cells ≤ R.cells := by rw [show (headSpec ws rm).room.cells = mc from hrc]; exact hp.1
  have h5 : A.slots + (headSpec ws rm).room.slots ≤ R.slots := by rw [show (headSpec ws rm).room.slots = ms from hrs]; exact hp.2.1
  have hPc : Pc a (A.U.calling g mk a) := hblind _ _ _ _ hp.2.2
  obtain ⟨U, Ls, c0, s0⟩ := A
  dsimp only [Pt.U, Pt.locs, Pt.cells, Pt.slots] at h1 h2 h3 h4 h5 X hn hPc ⊢
  obtain ⟨methY, cY, hmY, hcY, -, hlY, -, -, -, -⟩ := Cond.code_spec hn h2
  obtain ⟨kY, hkY, -⟩ := className_of_methodNamed hn
  have hinitY : kY.init = .initialized := Cond.initialized_spec (findClass_of_methodNamed hn) hkY h3
  have h : At U g.method c below := by rw [hg]; exact X.here
  have hlocals9 : W9 + (maxL + 11) + (headSpec ws rm).room.locals ≤ R.locals := hlocals
  have happ : (headSpec ws rm).appliesLoose y e.platform (U.calling g mk a) = true :=
    Spec.appliesLoose_calling (g := g) h hdg hn hkY hinitY
      (X.room_calling (g := g) (R' := (headSpec ws rm).room) hsize hmY hcY hframes (by rw [hlY]; omega) h4 h5) h1
  obtain ⟨mid, hmid⟩ := h.above
  have hfr : (U.setTop g).frames = (.java g :: mid) ++ below := by rw [State.frames_setTop' g h.top, hmid]; rfl
  obtain ⟨o, s₂, hsteps, -, hend, hq⟩ := Steps.callFree hM p X.admits X.cas X.clock (acts := []) hfr happ hPc trivial
  have hq' : vx_Q Qc XC mc ms free a (U.calling g mk a) o s₂ := hq
  rw [State.frames_setTop' g h.top] at hend
  obtain ⟨g₀, hg0⟩ := Option.isSome_iff_exists.mp h.top
  obtain ⟨r, hr⟩ := State.topJava?_eq_some.mp hg0
  have hr' : (({ U with heap := s₂.heap, slotsUsed := s₂.slotsUsed } : State).setVm s₂.vm).frames = .java g₀ :: r := hr
  rcases hq' with ⟨hqc, L, hfe, hL⟩ | ⟨q, rfl, E, ce, L, hx, hce, hcv, hcl, hW₂, hsm, hL⟩
  · obtain ⟨⟨v, rfl⟩, hW₂, e2, q2, q3, q4, q5, q6⟩ := id hfe
    have e3 : s₂ = ({ (U.calling g mk a).setFrames s₂.frames with heap := s₂.heap, slotsUsed := s₂.slotsUsed } : State).setVm s₂.vm := by
      have : s₂ = ({ s₂ with vm := (U.calling g mk a).vm } : State).setVm s₂.vm := rfl
      rw [e2] at this
      exact this
    obtain ⟨c₂, i₂, len₂, hc₂, hd₂, hf₂⟩ := hend
    have hW' : U.WarmedH s₂.vm := hW₂
    have hcc : c₂ = c := by
      have h1 : s₂.code? g.method = U.code? g.method := by
        rw [State.code?_eq, State.code?_eq, hW'.alike.method?]
      exact Option.some.inj (hc₂.symm.trans (h1.trans h.code))
    subst hcc
    have hlen : len₂ = len := by rw [hdg] at hd₂; cases hd₂; rfl
    subst hlen
    have hs₂ : s₂ = (({ U with heap := s₂.heap, slotsUsed := s₂.slotsUsed } : State).setVm s₂.vm).setTop { g with pc := g.pc + len₂, stack := v.toList ++ g.stack } := by
      refine e3.trans ?_
      rw [hf₂, State.calling_eq h.top, State.setFrames_setFrames, State.setTop_of_frames _ hr', hr]
      rfl
    have hsame : U.sameButNew ({ U with heap := s₂.heap, slotsUsed := s₂.slotsUsed } : State) L mc ms := by
      refine ⟨?_, q2, q3, q4, q5, q6⟩
      obtain ⟨t, ht, -⟩ := State.frames_cons hr
      show ({ U with heap := s₂.heap, slotsUsed := s₂.slotsUsed } : State) = { U.setFrames U.frames with heap := s₂.heap, slotsUsed := s₂.slotsUsed }
      rw [State.setFrames_self ht]
    subst hg
    refine Or.inl ⟨v, ⟨(({ U with heap := s₂.heap, slotsUsed := s₂.slotsUsed } : State).setVm s₂.vm), Ls ++ L, c0 + mc, s0 + ms⟩,
      ⟨X.admits, X.cas, X.clock, X.frames, X.room, X.hears, X.method, X.code, (X.here.setHeapUsed s₂.heap s₂.slotsUsed).setVm hW'.alike, X.tail, State.WarmedH.trans X.warmed hW', X.limits, X.bytes, X.same.trans (hsame.setVm s.vm)⟩,
      ⟨g, mk, s₂, L, rfl, rfl, hqc, rfl, hL, rfl, rfl⟩, ?_⟩
    show Steps p.tables e below _ ((({ U with heap := s₂.heap, slotsUsed := s₂.slotsUsed } : State).setVm s₂.vm).setTop { g with pc := g.pc + len₂, stack := v.toList ++ g.stack })
    rw [← hs₂]
    exact hsteps
  · obtain ⟨e2, q2, q3, q4, q5, q6⟩ := id hsm
    have e3 : s₂ = ({ (U.calling g mk a).setFrames s₂.frames with heap := s₂.heap, slotsUsed := s₂.slotsUsed } : State).setVm s₂.vm := by
      have : s₂ = ({ s₂ with vm := (U.calling g mk a).vm } : State).setVm s₂.vm := rfl
      rw [e2] at this
      exact this
    have hf₂ : s₂.frames = .throwing q :: .java g :: U.frames.tail := hend
    have hW' : U.WarmedH s₂.vm := hW₂
    have hs₂ : s₂ = ((({ U with heap := s₂.heap, slotsUsed := s₂.slotsUsed } : State).setVm s₂.vm).setTop g).pushFrame (.throwing q) := by
      refine e3.trans ?_
      rw [hf₂, State.calling_eq h.top, State.setFrames_setFrames, State.pushFrame, State.frames_setTop _ hr', State.setTop_of_frames _ hr', State.setFrames_setFrames, hr]
      rfl
    have hsame : U.sameButNew ({ U with heap := s₂.heap, slotsUsed := s₂.slotsUsed } : State) L mc ms := by
      refine ⟨?_, q2, q3, q4, q5, q6⟩
      obtain ⟨t, ht, -⟩ := State.frames_cons hr
      show ({ U with heap := s₂.heap, slotsUsed := s₂.slotsUsed } : State) = { U.setFrames U.frames with heap := s₂.heap, slotsUsed := s₂.slotsUsed }
      rw [State.setFrames_self ht]
    subst hg
    refine Or.inr ⟨q, ⟨(({ U with heap := s₂.heap, slotsUsed := s₂.slotsUsed } : State).setVm s₂.vm), Ls ++ L, c0 + mc, s0 + ms⟩,
      ⟨X.admits, X.cas, X.clock, X.frames, X.room, X.hears, X.method, X.code, (X.here.setHeapUsed s₂.heap s₂.slotsUsed).setVm hW'.alike, X.tail, State.WarmedH.trans X.warmed hW', X.limits, X.bytes, X.same.trans (hsame.setVm s.vm)⟩,
      ⟨g, mk, s₂, L, E, ce, rfl, rfl, hx, hce, hcv, hcl, rfl, hL, rfl, rfl⟩, ?_⟩
    show Steps p.tables e below _ (((({ U with heap := s₂.heap, slotsUsed := s₂.slotsUsed } : State).setVm s₂.vm).setTop g).pushFrame (.throwing q))
    rw [← hs₂]
    exact hsteps
end Payer
section Calls
variable {p : Program} {l : Launch} {e : Env} {R : Room} {s : State} {m : MethodId} {args : Array Value} {below : List Frame} {meth : Method} {c : Code} {T : State} {locs : List Loc} {cells slots : Nat}
theorem vx_callV (X : Stand p l e R s m args below meth c T locs cells slots) (hexec : p.tables.exec = Jvm.exec) {own C : String} {index : Nat} {y : MethodName} {bytes : ByteArray} {maxL : Nat} {ret : Option FieldType}
    (hown : s.vm.findClass own = some m.cls) (hlink : (Cond.methodLink own index y).before args s = true) (hinst : (Cond.instanceMethod y).before args s = true) (hsel : (Cond.selects C y y).before args s = true)
    (hcode : (Cond.code y bytes maxL ret).before args s = true) (hy : y.cls ≠ "java/lang/invoke/MethodHandle" ∧ y.cls ≠ "java/lang/invoke/VarHandle")
    {W9 : Nat} {Pre : Pt → Array Value → Prop} {Post : Pt → Array Value → Option Value → Pt → Prop} {PostX : Pt → Array Value → Addr → Pt → Prop} (hK : vx_Back l R p e below s args y 3 W9 Pre Post PostX)
    {b : Addr} {cellB : Cell} (hcell : T.heap[b]? = some cellB) (hobj : cellB.vm.isStatics = false) (hcls : s.vm.findClass C = some cellB.cls)
    {g : JFrame} (hg : g.method = m) (hsize : g.locals.size = c.maxLocals) {argsL rest : List Value} (hlen : ∀ sig, parseMethodDescriptor y.desc = some sig → argsL.length = sig.parameters.length)
    (hstack : g.stack = argsL.reverse ++ .ref b :: rest) (hW : 2 * g.monitorRoom + (rest.map fun v => v.category).sum ≤ W9) (hdg : decode c.code g.pc = .ok (.invokevirtual index, 3))
    (hpre : ∀ vm₁, s.WarmedH vm₁ → Pre ⟨T.setVm vm₁, locs, cells, slots⟩ (Value.ref b :: argsL).toArray) :
    (∃ (v : Option Value) (vm₁ : Vm) (B : Pt), s.WarmedH vm₁ ∧ Stand p l e R s m args below meth c B.U B.locs B.cells B.slots ∧ Post ⟨T.setVm vm₁, locs, cells, slots⟩ (Value.ref b :: argsL).toArray v B ∧
      ∀ target, Steps p.tables e below (B.U.setTop { g with pc := g.pc + 3, stack := v.toList ++ rest }) target → Steps p.tables e below (T.setTop g) target) ∨
    (∃ (q : Addr) (vm₁ : Vm) (B : Pt), s.WarmedH vm₁ ∧ Stand p l e R s m args below meth c B.U B.locs B.cells B.slots ∧ PostX ⟨T.setVm vm₁, locs, cells, slots⟩ (Value.ref b :: argsL).toArray q B ∧
      Steps p.tables e below (T.setTop g) ((B.U.setTop { g with stack := rest }).pushFrame (.throwing q))) := by
  obtain ⟨mk, methM, hnamed, hmethM, hstM, habM⟩ := Cond.instanceMethod_spec hinst
  obtain ⟨methM', cM, hmethM', -, -, -, -, -, -, hsigM⟩ := Cond.code_spec hnamed hcode
  cases hmethM.symm.trans hmethM'
  obtain ⟨c2, r2, m2, q1, q2, q3, q4, kP, hkP, hkPi⟩ := Cond.selects_spec hsel
  cases hcls.symm.trans q1
  cases (State.methodFound?_of_named hnamed hy).symm.trans q2
  cases hnamed.symm.trans q3
  have hselP : selectMethod e.platform s.vm cellB.cls mk = .method mk := by rw [Launch.admits_selectMethod X.admits]; exact q4
  obtain ⟨vm₁, X₁, hstep₁⟩ := X.invokevirtual hexec hown hlink hnamed hmethM hstM hkP hkPi hy (a := b) (cell := cellB) hcell
    (fun z h => by rw [h] at hobj; cases hobj) hselP hmethM habM hkP hkPi (g := g) hg (argsL := argsL) (rest := rest) (hlen _ hsigM) hstack hdg
  rcases hK m meth c ⟨T.setVm vm₁, locs, cells, slots⟩ { g with stack := rest } (.invokevirtual index) mk (Value.ref b :: argsL).toArray X₁ hg hsize hdg hW (X₁.named hnamed) (hpre vm₁ X₁.warmed) with ⟨v, B, X', hpost, hsteps⟩ | ⟨q, B, X', hpost, hsteps⟩
  · exact Or.inl ⟨v, vm₁, B, X₁.warmed, X', hpost, fun target h => hstep₁ _ fun acts => by rw [doInvoke_state]; exact hsteps.trans h⟩
  · exact Or.inr ⟨q, vm₁, B, X₁.warmed, X', hpost, hstep₁ _ fun acts => by rw [doInvoke_state]; exact hsteps⟩
theorem vx_callS (X : Stand p l e R s m args below meth c T locs cells slots) (hexec : p.tables.exec = Jvm.exec) {own : String} {index : Nat} {y : MethodName} {bytes : ByteArray} {maxL : Nat} {ret : Option FieldType}
    (hown : s.vm.findClass own = some m.cls) (hlink : (Cond.methodLink own index y).before args s = true) (hstat : (Cond.static y).before args s = true) (hinit : (Cond.initialized y.cls).before args s = true)
    (hcode : (Cond.code y bytes maxL ret).before args s = true) (hy : y.cls ≠ "java/lang/invoke/MethodHandle" ∧ y.cls ≠ "java/lang/invoke/VarHandle")
    {W9 : Nat} {Pre : Pt → Array Value → Prop} {Post : Pt → Array Value → Option Value → Pt → Prop} {PostX : Pt → Array Value → Addr → Pt → Prop} (hK : vx_Back l R p e below s args y 3 W9 Pre Post PostX)
    {g : JFrame} (hg : g.method = m) (hsize : g.locals.size = c.maxLocals) {argsL rest : List Value} (hlen : ∀ sig, parseMethodDescriptor y.desc = some sig → argsL.length = sig.parameters.length)
    (hstack : g.stack = argsL.reverse ++ rest) (hW : 2 * g.monitorRoom + (rest.map fun v => v.category).sum ≤ W9) (hdg : decode c.code g.pc = .ok (.invokestatic index, 3))
    (hpre : ∀ vm₁, s.WarmedH vm₁ → Pre ⟨T.setVm vm₁, locs, cells, slots⟩ argsL.toArray) :
    (∃ (v : Option Value) (vm₁ : Vm) (B : Pt), s.WarmedH vm₁ ∧ Stand p l e R s m args below meth c B.U B.locs B.cells B.slots ∧ Post ⟨T.setVm vm₁, locs, cells, slots⟩ argsL.toArray v B ∧
      ∀ target, Steps p.tables e below (B.U.setTop { g with pc := g.pc + 3, stack := v.toList ++ rest }) target → Steps p.tables e below (T.setTop g) target) ∨
    (∃ (q : Addr) (vm₁ : Vm) (B : Pt), s.WarmedH vm₁ ∧ Stand p l e R s m args below meth c B.U B.locs B.cells B.slots ∧ PostX ⟨T.setVm vm₁, locs, cells, slots⟩ argsL.toArray q B ∧
      Steps p.tables e below (T.setTop g) ((B.U.setTop { g with stack := rest }).pushFrame (.throwing q))) := by
  obtain ⟨mk, hnamed⟩ := Cond.code_named hcode
  obtain ⟨methM, cM, hmethM, -, -, -, -, -, -, hsigM⟩ := Cond.code_spec hnamed hcode
  have hstatic : methM.isStatic = true := Cond.static_spec hnamed hmethM hstat
  obtain ⟨kP, hkP, -⟩ := className_of_methodNamed hnamed
  have hinitP : kP.init = .initialized := Cond.initialized_spec (findClass_of_methodNamed hnamed) hkP hinit
  obtain ⟨vm₁, X₁, hstep₁⟩ := X.invokestatic hexec hown hlink hnamed hmethM hstatic hkP hinitP hy (g := g) hg (argsL := argsL) (rest := rest) (hlen _ hsigM) hstack hdg
  rcases hK m meth c ⟨T.setVm vm₁, locs, cells, slots⟩ { g with stack := rest } (.invokestatic index) mk argsL.toArray X₁ hg hsize hdg hW (X₁.named hnamed) (hpre vm₁ X₁.warmed) with ⟨v, B, X', hpost, hsteps⟩ | ⟨q, B, X', hpost, hsteps⟩
  · exact Or.inl ⟨v, vm₁, B, X₁.warmed, X', hpost, fun target h => hstep₁ _ fun acts => by rw [doInvoke_state]; exact hsteps.trans h⟩
  · exact Or.inr ⟨q, vm₁, B, X₁.warmed, X', hpost, hstep₁ _ fun acts => by rw [doInvoke_state]; exact hsteps⟩
end Calls
theorem vx_cls {s : State} {T : State} {vm₁ : Vm} {E : String} {k : ClassId} (hW : s.WarmedH vm₁) (h : (T.setVm vm₁).vm.findClass E = some k) : s.vm.findClass E = some k := by
  have h1 : vm₁.findClass E = some k := h
  rw [hW.alike.findClass] at h1
  exact h1
/-- the method's frame g, with q thrown over it -/
def vx_W (p : Program) (l : Launch) (e : Env) (R : Room) (s : State) (m : MethodId) (args : Array Value) (below : List Frame) (meth : Method) (c : Code) (H : Heap) (locs : List Loc) (cells slots : Nat) (Q : State → Prop) (g : JFrame) (q : Addr) : Prop :=
  ∀ T : State, T.heap = H → Stand p l e R s m args below meth c T locs cells slots → ∃ t, Steps p.tables e below ((T.setTop g).pushFrame (.throwing q)) t ∧ Q t
def vx_Run (p : Program) (l : Launch) (e : Env) (R : Room) (s : State) (m : MethodId) (args : Array Value) (below : List Frame) (meth : Method) (c : Code) (H : Heap) (locs : List Loc) (cells slots mc ms : Nat) (g : JFrame) (rest : List Value) (Qa : State → Outcome → State → Prop) (XC : String → State → State → Prop) (free : Addr → Prop) : Prop :=
  ∀ T : State, T.heap = H → Stand p l e R s m args below meth c T locs cells slots →
    (∃ (v : Option Value) (st₀ t T' : State) (L : List Loc), st₀.heap = H ∧ Stand p l e R s m args below meth c T' (locs ++ L) (cells + mc) (slots + ms) ∧ (∀ q ∈ L, free q.base) ∧ T'.heap = t.heap ∧ T'.vm = t.vm ∧ Qa st₀ (.returned v) t ∧
      Goes p e below T g T' { g with pc := g.pc + 3, stack := v.toList ++ rest }) ∨
    (∃ (q : Addr) (st₀ t T' : State) (L : List Loc) (E : String) (ce : Cell), st₀.heap = H ∧ Stand p l e R s m args below meth c T' (locs ++ L) (cells + mc) (slots + ms) ∧ (∀ z ∈ L, free z.base) ∧ T'.heap = t.heap ∧ T'.vm = t.vm ∧ XC E st₀ t ∧ t.heap[q]? = some ce ∧ ce.vm = .none ∧ s.vm.findClass E = some ce.cls ∧
      Steps p.tables e below (T.setTop g) ((T'.setTop { g with stack := rest }).pushFrame (.throwing q)))
def vx_X {S : Type} (px : S → Prop) (B : String → S → State → Prop) (A : Nat → Prop) : String → State → State → Prop := fun E st t => ∃ u : S, px u ∧ B E u t ∧ va_F A st t
section Runs
variable {p : Program} {l : Launch} {e : Env} {R : Room} {s : State} {m : MethodId} {args : Array Value} {below : List Frame} {meth : Method} {c : Code} {H : Heap} {locs : List Loc} {cells slots : Nat}
variable {y : MethodName} {bytes cc : ByteArray} {maxL nL mc ms n index : Nat} {ret : Option FieldType} {ws : List Cond} {rm : Room} {Pc : Array Value → State → Prop} {Qc : Array Value → State → Outcome → State → Prop} {XC : String → State → State → Prop} {free : Addr → Prop} {Ts : List Cond} {own C : String} {b : Addr} {As rest : List Value} {g : JFrame}
theorem vx_callBack (cb : CallB R s args own index y bytes maxL ret ws rm mc ms n) (hM : vx_Met l y ws rm Pc Qc XC mc ms free) (hbl : FrameBlind Pc) : vx_Back l R p e below s args y 3 8 (PreOf R mc ms Pc) (PostOf Qc mc ms free) (vx_Post XC mc ms free) := by
  obtain ⟨hrc, hrs, hfr, hlo, hws, hcw, -, hini, -⟩ := cb
  exact vx_back (bytes := bytes) (maxL := maxL) (ret := ret) hM hbl hrc hrs hfr hlo hws hcw (fun a' U hW => word_at hW (Or.inl (by first | rfl | simp [Cond.onTables, Cond.keeps, Cond.steady])) hini)
theorem vx_runV (S : CallFix p m c cc nL s args Ts own) (hM : vx_Met l y ws rm Pc Qc XC mc ms free) (cw : CallW R s args own C index y bytes maxL ret ws rm mc ms n) (hp : PreV s H C b Pc As)
    (hg : g.method = m) (hn : As.length = n) (hsize : g.locals.size = nL) (hstack : g.stack = As.reverse ++ .ref b :: rest) (hW : 2 * g.monitorRoom + (rest.map fun v => v.category).sum ≤ 8) (hdg : decode cc g.pc = .ok (.invokevirtual index, 3)) (hf : cells + mc ≤ R.cells ∧ slots + ms ≤ R.slots) :
    vx_Run p l e R s m args below meth c H locs cells slots mc ms g rest (Qc (Value.ref b :: As).toArray) XC free := by
  have hK : vx_Back l R p e below s args y 3 8 (PreOf R mc ms Pc) (PostOf Qc mc ms free) (vx_Post XC mc ms free) := vx_callBack cw.1 hM hp.1
  obtain ⟨⟨-, -, -, -, -, -, hcode, -, hy, hlen, hl⟩, hin, hse⟩ := cw
  obtain ⟨hx, hb, hml, ho, -⟩ := S
  obtain ⟨-, ⟨cellB, hcB, hoB, hclB⟩, hPc⟩ := hp
  intro T hT X
  rcases vx_callV X hx (C := C) (bytes := bytes) (maxL := maxL) (ret := ret) ho hl hin hse hcode hy hK (by rw [hT]; exact hcB) hoB hclB hg (hsize.trans hml.symm) (argsL := As) (rest := rest) (fun sig h => hn.trans (hlen sig h)) hstack hW (by rw [hb]; exact hdg)
    (fun vm₁ hW₁ => ⟨hf.1, hf.2, hPc (T.setVm vm₁) hT hW₁⟩) with ⟨v, vm₁, ⟨U', l2, c2, s2⟩, hW₁, X', ⟨g', mk, t, L, e1, e2, hq, h1, hL, h2, h3⟩, st⟩ | ⟨q, vm₁, ⟨U', l2, c2, s2⟩, hW₁, X', ⟨g', mk, t, L, E, ce, e1, e2, hq, hce, hcv, hcl, h1, hL, h2, h3⟩, st⟩
  · dsimp only [Pt.U, Pt.locs, Pt.cells, Pt.slots] at X' e1 e2 h1 h2 h3 st
    subst h1; subst h2; subst h3
    exact Or.inl ⟨v, (T.setVm vm₁).calling g' mk (Value.ref b :: As).toArray, t, U', L, hT, X', hL, e1, e2, hq, st⟩
  · dsimp only [Pt.U, Pt.locs, Pt.cells, Pt.slots] at X' e1 e2 h1 h2 h3 st hcl
    subst h1; subst h2; subst h3
    exact Or.inr ⟨q, (T.setVm vm₁).calling g' mk (Value.ref b :: As).toArray, t, U', L, E, ce, hT, X', hL, e1, e2, hq, hce, hcv, vx_cls hW₁ hcl, st⟩
theorem vx_runS (S : CallFix p m c cc nL s args Ts own) (hM : vx_Met l y ws rm Pc Qc XC mc ms free) (cw : CallB R s args own index y bytes maxL ret ws rm mc ms n ∧ (Cond.static y).before args s = true) (hp : PreS s H Pc As)
    (hg : g.method = m) (hn : As.length = n) (hsize : g.locals.size = nL) (hstack : g.stack = As.reverse ++ rest) (hW : 2 * g.monitorRoom + (rest.map fun v => v.category).sum ≤ 8) (hdg : decode cc g.pc = .ok (.invokestatic index, 3)) (hf : cells + mc ≤ R.cells ∧ slots + ms ≤ R.slots) :
    vx_Run p l e R s m args below meth c H locs cells slots mc ms g rest (Qc As.toArray) XC free := by
  have hK : vx_Back l R p e below s args y 3 8 (PreOf R mc ms Pc) (PostOf Qc mc ms free) (vx_Post XC mc ms free) := vx_callBack cw.1 hM hp.1
  obtain ⟨⟨-, -, -, -, -, -, hcode, hini, hy, hlen, hl⟩, hstt⟩ := cw
  obtain ⟨hx, hb, hml, ho, -⟩ := S
  intro T hT X
  rcases vx_callS X hx (bytes := bytes) (maxL := maxL) (ret := ret) ho hl hstt hini hcode hy hK hg (hsize.trans hml.symm) (argsL := As) (rest := rest) (fun sig h => hn.trans (hlen sig h)) hstack hW (by rw [hb]; exact hdg)
    (fun vm₁ hW₁ => ⟨hf.1, hf.2, hp.2 (T.setVm vm₁) hT hW₁⟩) with ⟨v, vm₁, ⟨U', l2, c2, s2⟩, hW₁, X', ⟨g', mk, t, L, e1, e2, hq, h1, hL, h2, h3⟩, st⟩ | ⟨q, vm₁, ⟨U', l2, c2, s2⟩, hW₁, X', ⟨g', mk, t, L, E, ce, e1, e2, hq, hce, hcv, hcl, h1, hL, h2, h3⟩, st⟩
  · dsimp only [Pt.U, Pt.locs, Pt.cells, Pt.slots] at X' e1 e2 h1 h2 h3 st
    subst h1; subst h2; subst h3
    exact Or.inl ⟨v, (T.setVm vm₁).calling g' mk As.toArray, t, U', L, hT, X', hL, e1, e2, hq, st⟩
  · dsimp only [Pt.U, Pt.locs, Pt.cells, Pt.slots] at X' e1 e2 h1 h2 h3 st hcl
    subst h1; subst h2; subst h3
    exact Or.inr ⟨q, (T.setVm vm₁).calling g' mk As.toArray, t, U', L, E, ce, hT, X', hL, e1, e2, hq, hce, hcv, vx_cls hW₁ hcl, st⟩
end Runs
section Rows
variable {p : Program} {l : Launch} {e : Env} {R : Room} {s : State} {m : MethodId} {args : Array Value} {below : List Frame} {meth : Method} {c : Code} {H : Heap} {locs : List Loc} {cells slots : Nat} {Q : State → Prop}
variable {mc ms : Nat} {free : Addr → Prop} {A0 A1 : Nat → Prop} {H0 : Heap} {a : Array Value} {pc : Nat} {ls : Array Slot} {st0 rest : List Value}
theorem vx_keep {st₀ t T' : State} {L : List Loc} (h0 : st₀.heap = H) (e1 : T'.heap = t.heap) (hS : va_S A0 H0 H locs) (hA : ∀ q, q < H.size → A1 q → A0 q) (hf : ∀ q, free q → A0 q) (hL : ∀ q ∈ L, free q.base) (hF : va_F A1 st₀ t) :
    H.size ≤ T'.heap.size ∧ (∀ q : Nat, q < H.size → ¬ A1 q → T'.heap[q]? = H[q]?) ∧ va_S A0 H0 T'.heap (locs ++ L) := by
  obtain ⟨hz, hk⟩ := hF
  rw [h0] at hz hk
  exact ⟨by rw [e1]; exact hz, fun q h1 h2 => by rw [e1]; exact hk q h1 h2,
    ⟨Nat.le_trans hS.1 (by rw [e1]; exact hz), fun q h1 h2 => by rw [e1, hk q (Nat.lt_of_lt_of_le h1 hS.1) (fun z => h2 (hA q (Nat.lt_of_lt_of_le h1 hS.1) z))]; exact hS.2.1 q h1 h2, fun q hq => by
      rcases List.mem_append.mp hq with h | h
      · exact hS.2.2 q h
      · exact hf _ (hL q h)⟩⟩
theorem vx_calli {S SX : Type} {post : Int32 → S → Prop} {px : SX → Prop} {B : S → State → Prop} {BX : String → SX → State → Prop} {AX : Nat → Prop} (hr : vx_Run p l e R s m args below meth c H locs cells slots mc ms (F0 m pc ls st0) rest (va_Qi post B A1 a) (vx_X px BX AX) free) (hS : va_S A0 H0 H locs) (hA : ∀ q, q < H.size → A1 q → A0 q) (hf : ∀ q, free q → A0 q) (hAX : ∀ q, q < H.size → AX q → A0 q)
    (kx : ∀ (E : String) (ce : Cell) (q9 : Addr) (u : SX) (t : State) (H1 : Heap) (locs1 : List Loc), t.heap = H1 → s.vm.Alike t.vm → px u → BX E u t → H.size ≤ H1.size → (∀ q : Nat, q < H.size → ¬ AX q → H1[q]? = H[q]?) → va_S A0 H0 H1 locs1 → H1[q9]? = some ce → ce.vm = .none → s.vm.findClass E = some ce.cls → vx_W p l e R s m args below meth c H1 locs1 (cells + mc) (slots + ms) Q (F0 m pc ls rest) q9)
    (kk : ∀ (r : Int32) (u : S) (t : State) (H1 : Heap) (locs1 : List Loc), t.heap = H1 → s.vm.Alike t.vm → post r u → B u t → H.size ≤ H1.size → (∀ q : Nat, q < H.size → ¬ A1 q → H1[q]? = H[q]?) → va_S A0 H0 H1 locs1 → W p l e R s m args below meth c H1 locs1 (cells + mc) (slots + ms) Q (F0 m (pc + 3) ls (.int r :: rest))) : W p l e R s m args below meth c H locs cells slots Q (F0 m pc ls st0) := by
  intro T hT X
  rcases hr T hT X with ⟨v, st₀, t, T', L, h0, X', hL, e1, e2, ⟨⟨r, u, hv, hp, hb⟩, hF⟩, st⟩ | ⟨q, st₀, t, T', L, E, ce, h0, X', hL, e1, e2, ⟨u, hp, hb, hF⟩, hce, hcv, hcl, st⟩
  · cases hv
    obtain ⟨k1, k2, k3⟩ := vx_keep h0 e1 hS hA hf hL hF
    obtain ⟨t2, a1, b1⟩ := kk r u t T'.heap (locs ++ L) e1.symm (by rw [← e2]; exact X'.warmed.alike) hp hb k1 k2 k3 T' rfl X'
    exact ⟨t2, st t2 a1, b1⟩
  · obtain ⟨k1, k2, k3⟩ := vx_keep h0 e1 hS hAX hf hL hF
    obtain ⟨t2, a1, b1⟩ := kx E ce q u t T'.heap (locs ++ L) e1.symm (by rw [← e2]; exact X'.warmed.alike) hp hb k1 k2 k3 (by rw [e1]; exact hce) hcv hcl T' rfl X'
    exact ⟨t2, st.trans a1, b1⟩
theorem vx_calll {S SX : Type} {post : Int64 → S → Prop} {px : SX → Prop} {B : S → State → Prop} {BX : String → SX → State → Prop} {AX : Nat → Prop} (hr : vx_Run p l e R s m args below meth c H locs cells slots mc ms (F0 m pc ls st0) rest (va_Ql post B A1 a) (vx_X px BX AX) free) (hS : va_S A0 H0 H locs) (hA : ∀ q, q < H.size → A1 q → A0 q) (hf : ∀ q, free q → A0 q) (hAX : ∀ q, q < H.size → AX q → A0 q)
    (kx : ∀ (E : String) (ce : Cell) (q9 : Addr) (u : SX) (t : State) (H1 : Heap) (locs1 : List Loc), t.heap = H1 → s.vm.Alike t.vm → px u → BX E u t → H.size ≤ H1.size → (∀ q : Nat, q < H.size → ¬ AX q → H1[q]? = H[q]?) → va_S A0 H0 H1 locs1 → H1[q9]? = some ce → ce.vm = .none → s.vm.findClass E = some ce.cls → vx_W p l e R s m args below meth c H1 locs1 (cells + mc) (slots + ms) Q (F0 m pc ls rest) q9)
    (kk : ∀ (r : Int64) (u : S) (t : State) (H1 : Heap) (locs1 : List Loc), t.heap = H1 → s.vm.Alike t.vm → post r u → B u t → H.size ≤ H1.size → (∀ q : Nat, q < H.size → ¬ A1 q → H1[q]? = H[q]?) → va_S A0 H0 H1 locs1 → W p l e R s m args below meth c H1 locs1 (cells + mc) (slots + ms) Q (F0 m (pc + 3) ls (.long r :: rest))) : W p l e R s m args below meth c H locs cells slots Q (F0 m pc ls st0) := by
  intro T hT X
  rcases hr T hT X with ⟨v, st₀, t, T', L, h0, X', hL, e1, e2, ⟨⟨r, u, hv, hp, hb⟩, hF⟩, st⟩ | ⟨q, st₀, t, T', L, E, ce, h0, X', hL, e1, e2, ⟨u, hp, hb, hF⟩, hce, hcv, hcl, st⟩
  · cases hv
    obtain ⟨k1, k2, k3⟩ := vx_keep h0 e1 hS hA hf hL hF
    obtain ⟨t2, a1, b1⟩ := kk r u t T'.heap (locs ++ L) e1.symm (by rw [← e2]; exact X'.warmed.alike) hp hb k1 k2 k3 T' rfl X'
    exact ⟨t2, st t2 a1, b1⟩
  · obtain ⟨k1, k2, k3⟩ := vx_keep h0 e1 hS hAX hf hL hF
    obtain ⟨t2, a1, b1⟩ := kx E ce q u t T'.heap (locs ++ L) e1.symm (by rw [← e2]; exact X'.warmed.alike) hp hb k1 k2 k3 (by rw [e1]; exact hce) hcv hcl T' rfl X'
    exact ⟨t2, st.trans a1, b1⟩
theorem vx_callf {S SX : Type} {post : UInt32 → S → Prop} {px : SX → Prop} {B : S → State → Prop} {BX : String → SX → State → Prop} {AX : Nat → Prop} (hr : vx_Run p l e R s m args below meth c H locs cells slots mc ms (F0 m pc ls st0) rest (va_Qf post B A1 a) (vx_X px BX AX) free) (hS : va_S A0 H0 H locs) (hA : ∀ q, q < H.size → A1 q → A0 q) (hf : ∀ q, free q → A0 q) (hAX : ∀ q, q < H.size → AX q → A0 q)
    (kx : ∀ (E : String) (ce : Cell) (q9 : Addr) (u : SX) (t : State) (H1 : Heap) (locs1 : List Loc), t.heap = H1 → s.vm.Alike t.vm → px u → BX E u t → H.size ≤ H1.size → (∀ q : Nat, q < H.size → ¬ AX q → H1[q]? = H[q]?) → va_S A0 H0 H1 locs1 → H1[q9]? = some ce → ce.vm = .none → s.vm.findClass E = some ce.cls → vx_W p l e R s m args below meth c H1 locs1 (cells + mc) (slots + ms) Q (F0 m pc ls rest) q9)
    (kk : ∀ (r : UInt32) (u : S) (t : State) (H1 : Heap) (locs1 : List Loc), t.heap = H1 → s.vm.Alike t.vm → post r u → B u t → H.size ≤ H1.size → (∀ q : Nat, q < H.size → ¬ A1 q → H1[q]? = H[q]?) → va_S A0 H0 H1 locs1 → W p l e R s m args below meth c H1 locs1 (cells + mc) (slots + ms) Q (F0 m (pc + 3) ls (.float r :: rest))) : W p l e R s m args below meth c H locs cells slots Q (F0 m pc ls st0) := by
  intro T hT X
  rcases hr T hT X with ⟨v, st₀, t, T', L, h0, X', hL, e1, e2, ⟨⟨r, u, hv, hp, hb⟩, hF⟩, st⟩ | ⟨q, st₀, t, T', L, E, ce, h0, X', hL, e1, e2, ⟨u, hp, hb, hF⟩, hce, hcv, hcl, st⟩
  · cases hv
    obtain ⟨k1, k2, k3⟩ := vx_keep h0 e1 hS hA hf hL hF
    obtain ⟨t2, a1, b1⟩ := kk r u t T'.heap (locs ++ L) e1.symm (by rw [← e2]; exact X'.warmed.alike) hp hb k1 k2 k3 T' rfl X'
    exact ⟨t2, st t2 a1, b1⟩
  · obtain ⟨k1, k2, k3⟩ := vx_keep h0 e1 hS hAX hf hL hF
    obtain ⟨t2, a1, b1⟩ := kx E ce q u t T'.heap (locs ++ L) e1.symm (by rw [← e2]; exact X'.warmed.alike) hp hb k1 k2 k3 (by rw [e1]; exact hce) hcv hcl T' rfl X'
    exact ⟨t2, st.trans a1, b1⟩
theorem vx_calld {S SX : Type} {post : UInt64 → S → Prop} {px : SX → Prop} {B : S → State → Prop} {BX : String → SX → State → Prop} {AX : Nat → Prop} (hr : vx_Run p l e R s m args below meth c H locs cells slots mc ms (F0 m pc ls st0) rest (va_Qd post B A1 a) (vx_X px BX AX) free) (hS : va_S A0 H0 H locs) (hA : ∀ q, q < H.size → A1 q → A0 q) (hf : ∀ q, free q → A0 q) (hAX : ∀ q, q < H.size → AX q → A0 q)
    (kx : ∀ (E : String) (ce : Cell) (q9 : Addr) (u : SX) (t : State) (H1 : Heap) (locs1 : List Loc), t.heap = H1 → s.vm.Alike t.vm → px u → BX E u t → H.size ≤ H1.size → (∀ q : Nat, q < H.size → ¬ AX q → H1[q]? = H[q]?) → va_S A0 H0 H1 locs1 → H1[q9]? = some ce → ce.vm = .none → s.vm.findClass E = some ce.cls → vx_W p l e R s m args below meth c H1 locs1 (cells + mc) (slots + ms) Q (F0 m pc ls rest) q9)
    (kk : ∀ (r : UInt64) (u : S) (t : State) (H1 : Heap) (locs1 : List Loc), t.heap = H1 → s.vm.Alike t.vm → post r u → B u t → H.size ≤ H1.size → (∀ q : Nat, q < H.size → ¬ A1 q → H1[q]? = H[q]?) → va_S A0 H0 H1 locs1 → W p l e R s m args below meth c H1 locs1 (cells + mc) (slots + ms) Q (F0 m (pc + 3) ls (.double r :: rest))) : W p l e R s m args below meth c H locs cells slots Q (F0 m pc ls st0) := by
  intro T hT X
  rcases hr T hT X with ⟨v, st₀, t, T', L, h0, X', hL, e1, e2, ⟨⟨r, u, hv, hp, hb⟩, hF⟩, st⟩ | ⟨q, st₀, t, T', L, E, ce, h0, X', hL, e1, e2, ⟨u, hp, hb, hF⟩, hce, hcv, hcl, st⟩
  · cases hv
    obtain ⟨k1, k2, k3⟩ := vx_keep h0 e1 hS hA hf hL hF
    obtain ⟨t2, a1, b1⟩ := kk r u t T'.heap (locs ++ L) e1.symm (by rw [← e2]; exact X'.warmed.alike) hp hb k1 k2 k3 T' rfl X'
    exact ⟨t2, st t2 a1, b1⟩
  · obtain ⟨k1, k2, k3⟩ := vx_keep h0 e1 hS hAX hf hL hF
    obtain ⟨t2, a1, b1⟩ := kx E ce q u t T'.heap (locs ++ L) e1.symm (by rw [← e2]; exact X'.warmed.alike) hp hb k1 k2 k3 (by rw [e1]; exact hce) hcv hcl T' rfl X'
    exact ⟨t2, st.trans a1, b1⟩
theorem vx_callv {S SX : Type} {post : S → Prop} {px : SX → Prop} {B : S → State → Prop} {BX : String → SX → State → Prop} {AX : Nat → Prop} (hr : vx_Run p l e R s m args below meth c H locs cells slots mc ms (F0 m pc ls st0) rest (va_Qv post B A1 a) (vx_X px BX AX) free) (hS : va_S A0 H0 H locs) (hA : ∀ q, q < H.size → A1 q → A0 q) (hf : ∀ q, free q → A0 q) (hAX : ∀ q, q < H.size → AX q → A0 q)
    (kx : ∀ (E : String) (ce : Cell) (q9 : Addr) (u : SX) (t : State) (H1 : Heap) (locs1 : List Loc), t.heap = H1 → s.vm.Alike t.vm → px u → BX E u t → H.size ≤ H1.size → (∀ q : Nat, q < H.size → ¬ AX q → H1[q]? = H[q]?) → va_S A0 H0 H1 locs1 → H1[q9]? = some ce → ce.vm = .none → s.vm.findClass E = some ce.cls → vx_W p l e R s m args below meth c H1 locs1 (cells + mc) (slots + ms) Q (F0 m pc ls rest) q9)
    (kk : ∀ (u : S) (t : State) (H1 : Heap) (locs1 : List Loc), t.heap = H1 → s.vm.Alike t.vm → post u → B u t → H.size ≤ H1.size → (∀ q : Nat, q < H.size → ¬ A1 q → H1[q]? = H[q]?) → va_S A0 H0 H1 locs1 → W p l e R s m args below meth c H1 locs1 (cells + mc) (slots + ms) Q (F0 m (pc + 3) ls (rest))) : W p l e R s m args below meth c H locs cells slots Q (F0 m pc ls st0) := by
  intro T hT X
  rcases hr T hT X with ⟨v, st₀, t, T', L, h0, X', hL, e1, e2, ⟨⟨u, hv, hp, hb⟩, hF⟩, st⟩ | ⟨q, st₀, t, T', L, E, ce, h0, X', hL, e1, e2, ⟨u, hp, hb, hF⟩, hce, hcv, hcl, st⟩
  · cases hv
    obtain ⟨k1, k2, k3⟩ := vx_keep h0 e1 hS hA hf hL hF
    obtain ⟨t2, a1, b1⟩ := kk u t T'.heap (locs ++ L) e1.symm (by rw [← e2]; exact X'.warmed.alike) hp hb k1 k2 k3 T' rfl X'
    exact ⟨t2, st t2 a1, b1⟩
  · obtain ⟨k1, k2, k3⟩ := vx_keep h0 e1 hS hAX hf hL hF
    obtain ⟨t2, a1, b1⟩ := kx E ce q u t T'.heap (locs ++ L) e1.symm (by rw [← e2]; exact X'.warmed.alike) hp hb k1 k2 k3 (by rw [e1]; exact hce) hcv hcl T' rfl X'
    exact ⟨t2, st.trans a1, b1⟩
/-- caught by the row x of this method's table; the rows ahead don't take it -/
theorem vx_catch {own name : String} {E : String} {ce : Cell} {q : Addr} (hown : s.vm.findClass own = some m.cls) (pre : List ExceptionTableEntry) (x : ExceptionTableEntry) (suf : List ExceptionTableEntry) (hsplit : c.exceptionTable.toList = pre ++ x :: suf)
    (hpass : ∀ z ∈ pre, covers z pc = false ∨ (z.catchType ≠ 0 ∧ ∃ nm : String, (Cond.classLink own z.catchType nm).before args s = true ∧ va_Nc E nm s)) (hx : covers x pc = true) (h0 : x.catchType ≠ 0)
    (hlink : (Cond.classLink own x.catchType name).before args s = true) (hcast : (Cond.castable E name).before args s = true) (hcell : H[q]? = some ce) (hv : ce.vm = .none) (hcl : s.vm.findClass E = some ce.cls)
    (kk : W p l e R s m args below meth c H locs cells slots Q (F0 m x.handlerPc ls [.ref q])) : vx_W p l e R s m args below meth c H locs cells slots Q (F0 m pc ls rest) q := by
  intro T hT X
  have hpl : e.platform.magicAccessors = ({} : Platform).magicAccessors := by rw [X.admits.platform]
  obtain ⟨c3, c4, hc3, hc4, hasg⟩ := Cond.castable_spec hcast
  cases Option.some.inj (hc3.symm.trans hcl)
  obtain ⟨c5, hc5, hcl5⟩ := Cond.classLink_spec hown hlink e.platform hpl
  cases Option.some.inj (hc4.symm.trans hc5)
  obtain ⟨vm', X', st⟩ := X.thenCaughtThrough q (g := F0 m pc ls rest) rfl (Steps.refl _) (by rw [hT]; exact hcell) (by rw [hv]; rfl) (by obtain ⟨k9, h9, -⟩ := Vm.findClass_spec hcl; exact ⟨k9, h9⟩) pre x suf hsplit
    (fun z hz => by
      rcases hpass z hz with h | ⟨hz0, nm, hl1, hn1⟩
      · exact Or.inl h
      · obtain ⟨c6, hc6, hcl6⟩ := Cond.classLink_spec hown hl1 e.platform hpl
        obtain ⟨a8, b8, h1, h2, h3⟩ := hn1
        cases Option.some.inj (h1.symm.trans hcl)
        cases Option.some.inj (h2.symm.trans hc6)
        exact Or.inr ⟨hz0, _, hcl6, h3⟩) hx (Or.inr ⟨h0, c4, hcl5, hasg⟩)
  obtain ⟨t, a1, b1⟩ := kk (T.setVm vm') hT X'
  exact ⟨t, st.trans a1, b1⟩
end Rows
section Ends
variable {p : Program} {l : Launch} {e : Env} {R : Room} {s : State} {m : MethodId} {args : Array Value} {below : List Frame} {meth : Method} {c : Code} {H : Heap} {locs : List Loc} {cells slots : Nat} {Q : State → Prop}
variable {mc ms : Nat} {free : Addr → Prop} {A0 A1 : Nat → Prop} {H0 : Heap} {a : Array Value} {ls : Array Slot} {st0 rest : List Value}
variable {Qc : Array Value → State → Outcome → State → Prop} {XC : String → State → State → Prop}
/-- what a body that may throw owes at its end -/
def vx_MQ (below : List Frame) (Qc : Array Value → State → Outcome → State → Prop) (XC : String → State → State → Prop) (a : Array Value) (s : State) (mc ms : Nat) (free : Addr → Prop) : State → Prop := fun t =>
  ∃ o, t.status = .running ∧ Ended t below o ∧ vx_Q Qc XC mc ms free a s o t
theorem vx_ret {g : JFrame} {mc ms : Nat} (k : W p l e R s m args below meth c H locs cells slots (MQ below Qc args s mc ms free) g) : W p l e R s m args below meth c H locs cells slots (vx_MQ below Qc XC args s mc ms free) g := by
  intro T hT X
  obtain ⟨t, a1, o, b1, b2, b3, b4⟩ := k T hT X
  exact ⟨t, a1, o, b1, b2, Or.inl ⟨b3, b4⟩⟩
/-- not caught here: it goes on to the caller -/
theorem vx_widen {g : JFrame} {q : Addr} {k n : Nat} (h1 : cells ≤ k) (h2 : slots ≤ n) (kk : vx_W p l e R s m args below meth c H locs k n Q g q) : vx_W p l e R s m args below meth c H locs cells slots Q g q := fun T hT X => kk T hT (stand_widen X h1 h2)
theorem vx_out {pc : Nat} {E : String} {ce : Cell} {q : Addr} {mc ms : Nat} (hout : ∀ x ∈ c.exceptionTable.toList, covers x pc = false) (hlocks : meth.locks = false) (hcell : H[q]? = some ce) (hv : ce.vm = .none) (hcl : s.vm.findClass E = some ce.cls)
    (hx : ∀ t : State, t.heap = H → s.vm.Alike t.vm → XC E s t) (hf : ∀ z ∈ locs, free z.base) (hc : cells ≤ mc) (hs : slots ≤ ms) :
    vx_W p l e R s m args below meth c H locs cells slots (vx_MQ below Qc XC args s mc ms free) (F0 m pc ls rest) q := by
  intro T hT X
  obtain ⟨st1, hrun, hend, hW, hsm⟩ := X.leaveThrown q (g := F0 m pc ls rest) rfl rfl rfl hout hlocks
  have hcell9 : (T.setFrames (.throwing q :: below)).heap[q]? = some ce := by
    show T.heap[q]? = some ce
    rw [hT]; exact hcell
  exact ⟨_, st1, .threw q, hrun, hend, Or.inr ⟨q, rfl, E, ce, locs, hx _ hT hW.alike, hcell9, hv, hcl, hW, hsm.mono hc hs, hf⟩⟩
theorem vx_frame {U : State} {k n : Nat} (h : s.sameButNew ({ U with vm := s.vm } : State) locs k n) : s.heap.size ≤ U.heap.size ∧ ∀ q : Nat, q < s.heap.size → (∀ z ∈ locs, z.base ≠ q) → U.heap[q]? = s.heap[q]? := by
  obtain ⟨-, h2, -, -, -, h6⟩ := h
  refine ⟨h2, fun q hq hz => ?_⟩
  obtain ⟨c9, e1, e2, e3, e4⟩ := h6 q _ (Array.getElem?_eq_getElem hq)
  have hs : c9.slots = (s.heap[q]).slots := Array.ext_getElem? fun i => e4 i fun hm => hz _ hm rfl
  have h9 : c9 = s.heap[q] := by
    rw [hs] at e2
    exact e2
  have e5 : U.heap[q]? = some c9 := e1
  rw [e5, h9, Array.getElem?_eq_getElem hq]
/-- the words of a throw but the four that speak of the heap -/
def vx_no (w : Cond) : Bool := decide (w ≠ .isRef (.static Bundle.tN "UNASSIGNED_STACK" Bundle.steD)) && decide (w ≠ .isRef (.static Bundle.tN "SUPPRESSED_SENTINEL" Bundle.listD)) && decide (w ≠ .laysStatic Bundle.tN "UNASSIGNED_STACK" Bundle.steD) && decide (w ≠ .laysStatic Bundle.tN "SUPPRESSED_SENTINEL" Bundle.listD)
def vx_at0 (own : String) (ic : Nat) (X : String) (names : List String) : List Cond := (Bundle.ownAtoms0 own ic X names).filter vx_no
def vx_atS (own : String) (ic : Nat) (X : String) (names : List String) : List Cond := (Bundle.ownAtoms own ic X names).filter vx_no
/-- a word that the tables alone decide, or a good one -/
def vx_ot (w : Cond) : Bool := w.onTables || goodWord w
theorem vx_ot_at {args a' : Array Value} {s U : State} {w : Cond} (hW : s.WarmedH U.vm) (hvm : s.vm = U.vm) (hg : vx_ot w = true) (h : w.before args s = true) : w.before a' U = true := by
  simp only [vx_ot, Bool.or_eq_true] at hg
  rcases hg with hg | hg
  · exact va_tabs hg hvm h
  · exact word_at hW (good_of_word hg) h
/-- a list's words: the good ones out of the method's own list, the others by premises of their own -/
theorem vx_hat {args : Array Value} {s : State} {L B : List Cond} (h1 : ∀ w ∈ L.filter goodWord, w.before args s = true) (h2 : ∀ w ∈ L.filter (fun w => !goodWord w), w ∈ B) (h3 : ∀ w ∈ B, w.before args s = true) : ∀ w ∈ L, w.before args s = true := by
  intro w hw
  by_cases g : goodWord w = true
  · exact h1 w (List.mem_filter.mpr ⟨hw, g⟩)
  · refine h3 w (h2 w (List.mem_filter.mpr ⟨hw, ?_⟩))
    show (!goodWord w) = true
    cases hgw : goodWord w
    · rfl
    · exact absurd hgw g
theorem vx_c {args : Array Value} {s : State} {w : Cond} {B : List Cond} (h : w.before args s = true) (t : ∀ w ∈ B, w.before args s = true) : ∀ w' ∈ w :: B, w'.before args s = true := fun w' h' => (List.mem_cons.mp h').elim (fun e => by rw [e]; exact h) (t w')
theorem vx_n {args : Array Value} {s : State} : ∀ w ∈ ([] : List Cond), w.before args s = true := fun _ h => nomatch h
theorem vx_own {args : Array Value} {s : State} {L : List Cond} (h1 : ∀ w ∈ L.filter vx_no, w.before args s = true)
    (hU : (Cond.isRef (.static Bundle.tN "UNASSIGNED_STACK" Bundle.steD)).before args s = true) (hN : (Cond.isRef (.static Bundle.tN "SUPPRESSED_SENTINEL" Bundle.listD)).before args s = true)
    (lU : (Cond.laysStatic Bundle.tN "UNASSIGNED_STACK" Bundle.steD).before args s = true) (lN : (Cond.laysStatic Bundle.tN "SUPPRESSED_SENTINEL" Bundle.listD).before args s = true) : ∀ w ∈ L, w.before args s = true := by
  intro w hw
  by_cases e1 : w = .isRef (.static Bundle.tN "UNASSIGNED_STACK" Bundle.steD)
  · rw [e1]; exact hU
  · by_cases e2 : w = .isRef (.static Bundle.tN "SUPPRESSED_SENTINEL" Bundle.listD)
    · rw [e2]; exact hN
    · by_cases e3 : w = .laysStatic Bundle.tN "UNASSIGNED_STACK" Bundle.steD
      · rw [e3]; exact lU
      · by_cases e4 : w = .laysStatic Bundle.tN "SUPPRESSED_SENTINEL" Bundle.listD
        · rw [e4]; exact lN
        · exact h1 w (List.mem_filter.mpr ⟨hw, by unfold vx_no; rw [decide_eq_true e1, decide_eq_true e2, decide_eq_true e3, decide_eq_true e4]; rfl⟩)
/-- where a static field lies, its class's statics cell in H -/
def vx_L (C n d : String) (A : Nat → Prop) (U : State) (H : Heap) : Prop := ∃ (c : ClassId) (k : Class) (i : Nat) (f : Field) (a : Nat) (cell : Cell), U.vm.findClass C = some c ∧ U.fieldFound? C n d = some (c, k, i, f) ∧ f.isStatic = true ∧ k.statics = some a ∧ H[a]? = some cell ∧ cell.vm.isStatics = true ∧ cell.cls = c ∧ f.slot < cell.slots.size ∧ k.staticTypes[f.slot]? = some f.type ∧ ¬ A a
theorem vx_L.moved {C n d : String} {A : Nat → Prop} {u U : State} {H : Heap} (hvm : u.vm.Alike U.vm) (h : vx_L C n d A u H) : vx_L C n d A U H := by
  obtain ⟨c, k, i, f, a, cell, h1, h2, h3, h4, h5, h6, h7, h8, h9, h10⟩ := h
  obtain ⟨k', hi', he⟩ := State.fieldFound?_setVm hvm h2
  exact ⟨c, k', i, f, a, cell, by rw [hvm.findClass]; exact h1, hi', h3, by rw [he]; exact h4, h5, h6, h7, h8, by rw [he]; exact h9, h10⟩
theorem vx_L.kept {C n d : String} {A : Nat → Prop} {U : State} {H H1 : Heap} (h : vx_L C n d A U H) (hq : ∀ a : Nat, a < H.size → ¬ A a → H1[a]? = H[a]?) : vx_L C n d A U H1 := by
  obtain ⟨c, k, i, f, a, cell, h1, h2, h3, h4, h5, h6, h7, h8, h9, h10⟩ := h
  exact ⟨c, k, i, f, a, cell, h1, h2, h3, h4, by rw [hq a (Array.getElem?_eq_some_iff.mp h5).1 h10]; exact h5, h6, h7, h8, h9, h10⟩
theorem vx_L.narrow {C n d : String} {A B : Nat → Prop} {U : State} {H : Heap} (h : vx_L C n d A U H) (hAB : ∀ q, B q → A q) : vx_L C n d B U H := by
  obtain ⟨c, k, i, f, a, cell, h1, h2, h3, h4, h5, h6, h7, h8, h9, h10⟩ := h
  exact ⟨c, k, i, f, a, cell, h1, h2, h3, h4, h5, h6, h7, h8, h9, fun z => h10 (hAB _ z)⟩
theorem vx_L.word {C n d : String} {A : Nat → Prop} {s : State} {args : Array Value} (h : vx_L C n d A s s.heap) : (Cond.laysStatic C n d).before args s = true := by
  obtain ⟨c, k, i, f, a, cell, h1, h2, h3, h4, h5, h6, h7, h8, h9, -⟩ := h
  show (Cond.laysStatic C n d).holds args s none s [] = true
  exact Cond.laysStatic_of h1 h2 h3 h4 h5 h6 h7 h8 h9
/-- .. and what it holds: null or some reference -/
def vx_Zq (C n d : String) (A : Nat → Prop) (U : State) (H : Heap) : Prop := va_Zq C n d A U H ∧ vx_L C n d A U H
theorem vx_Zq.moved {C n d : String} {A : Nat → Prop} {u U : State} {H : Heap} (hvm : u.vm.Alike U.vm) (h : vx_Zq C n d A u H) : vx_Zq C n d A U H := ⟨va_Zq.moved hvm h.1, vx_L.moved hvm h.2⟩
theorem vx_Zq.kept {C n d : String} {A : Nat → Prop} {U : State} {H H1 : Heap} (h : vx_Zq C n d A U H) (hq : ∀ a : Nat, a < H.size → ¬ A a → H1[a]? = H[a]?) : vx_Zq C n d A U H1 := ⟨va_Zq.kept h.1 hq, vx_L.kept h.2 hq⟩
theorem vx_Zq.narrow {C n d : String} {A B : Nat → Prop} {U : State} {H : Heap} (h : vx_Zq C n d A U H) (hAB : ∀ q, B q → A q) : vx_Zq C n d B U H := ⟨va_Zq.narrow h.1 hAB, vx_L.narrow h.2 hAB⟩
theorem vx_Zqof {args : Array Value} {s : State} {C n d : String} {A : Nat → Prop} (hl : (Cond.laysStatic C n d).before args s = true) (hini : (Cond.initialized C).before args s = true) (h : (Cond.isRef (.static C n d)).before args s = true) (hA : ∀ a : Nat, a < s.heap.size → ¬ A a) : vx_Zq C n d A s s.heap := by
  refine ⟨va_Zqof hl hini h hA, ?_⟩
  obtain ⟨c, k, i, f, a, cell, h1, h2, h3, h4, h5, h6, h7, h8, h9⟩ := Cond.laysStatic_spec hl
  exact ⟨c, k, i, f, a, cell, h1, h2, h3, h4, h5, h6, h7, h8, h9, hA a (Array.getElem?_eq_some_iff.mp h5).1⟩
theorem vx_isRef {C n d : String} {v : Value} {A : Nat → Prop} {s : State} {args : Array Value} (h : va_Z C n d v A s s.heap) (hv : v.isRef = true) : (Cond.isRef (.static C n d)).before args s = true := by
  obtain ⟨cf, kf, fi, f, a, cell, h1, h2, h3, h4, h5, h6, h7, -⟩ := h
  have he : (Term.static C n d).eval args s none [] s = some v := by
    simp [Term.eval, State.fieldNamed?, h1, h2, h4, h5, h6, h7]
  simp only [Cond.before, Cond.holds, Cond.value, he]
  cases v <;> simp_all [Value.isRef]
theorem vx_isRefq {C n d : String} {A : Nat → Prop} {s : State} {args : Array Value} (h : va_Zq C n d A s s.heap) : (Cond.isRef (.static C n d)).before args s = true := by
  rcases h with h | ⟨t, h⟩
  · exact vx_isRef h rfl
  · exact vx_isRef h rfl
/-- the same frame, seen from here: as if the method were called anew in this heap -/
theorem vx_rebase {T : State} (X : Stand p l e R s m args below meth c T locs cells slots) {R' : Room} (hf : R'.frames ≤ R.frames) (hl : R'.locals ≤ R.locals) (hc : cells + R'.cells ≤ R.cells) (hs : slots + R'.slots ≤ R.slots) :
    Stand p l e R' ((T.setVm s.vm).setFrames (.invoking m args :: below)) m args below meth c T [] 0 0 := by
  have htop : (T.setVm s.vm).topJava?.isSome := X.here.top
  have hF : ((T.setVm s.vm).setFrames (.invoking m args :: below)).frames = .invoking m args :: below := State.frames_setFrames _ (State.cur_lt_of_top htop)
  obtain ⟨g₀, hg0⟩ := Option.isSome_iff_exists.mp htop
  obtain ⟨r, hr⟩ := State.topJava?_eq_some.mp hg0
  have hl9 : e.platform.stackLimits (T.setVm s.vm).me = e.platform.stackLimits s.me := X.limits
  have hb9 : (T.setVm s.vm).me.stackBytes = s.me.stackBytes := X.bytes
  refine ⟨X.admits, X.cas, X.clock, hF, ?_, X.hears, X.method, X.code, X.here, X.tail, X.warmed, ?_, ?_, ?_⟩
  · have h := X.room
    have hU : ((T.setVm s.vm).setFrames (.invoking m args :: below)).localsInUse = s.localsInUse := by
      rw [State.localsInUse_invoking hF (meth := meth) (c := c) X.method X.code, State.localsInUse_invoking X.frames X.method X.code]
    simp only [State.hasRoom, Bool.and_eq_true, decide_eq_true_eq] at h ⊢
    obtain ⟨⟨⟨⟨h1, h2, h3, h4, h5, h6⟩, h7⟩, h8⟩, h9⟩ := h
    rw [X.frames, List.length_cons] at h2 h3
    have q1 := X.heapSize
    have q2 := X.used
    simp only [hF, hU, List.length_cons, State.stackLimits_setFrames, State.stackBytes_setFrames, hl9, hb9]
    refine ⟨⟨⟨⟨by omega, by omega, by omega, by omega, by omega, h6⟩, ?_⟩, ?_⟩, X.book⟩
    · show T.heap.size + R'.cells ≤ e.platform.maxCells
      omega
    · show T.slotsUsed + R'.slots ≤ e.platform.maxSlots
      omega
  · rw [State.stackLimits_setFrames]; rfl
  · rw [State.stackBytes_setFrames]; rfl
  · refine ⟨?_, Nat.le_refl _, Nat.le_refl _, ?_, ?_, fun a c9 h9 => ⟨c9, h9, rfl, rfl, fun _ _ => rfl⟩⟩
    · obtain ⟨t, ht, -⟩ := State.frames_cons hr
      show T.setVm s.vm = { ((T.setVm s.vm).setFrames (.invoking m args :: below)).setFrames (T.setVm s.vm).frames with heap := T.heap, slotsUsed := T.slotsUsed }
      rw [State.setFrames_setFrames, State.setFrames_self ht]
      rfl
    · show T.slotsUsed = T.slotsUsed + ((T.heap.toList.drop T.heap.size).map (·.slots.size)).sum
      rw [List.drop_eq_nil_of_le (Nat.le_of_eq Array.length_toList)]
      rfl
    · show ((T.heap.toList.drop T.heap.size).map (·.slots.size)).sum ≤ 0
      rw [List.drop_eq_nil_of_le (Nat.le_of_eq Array.length_toList)]
      exact Nat.le_refl _
/-- 'throw new E()': new; dup; invokespecial; athrow -/
theorem vx_throw0 {cc : ByteArray} {pc : Nat} (hexec : p.tables.exec = Jvm.exec) (hb : c.code = cc) (hl : l.stackTraces = false) {own cls : String} {names : List String} {ik ic mc ms : Nat} {A : Nat → Prop}
    (hown : s.vm.findClass own = some m.cls) (hcls : Bundle.fit cls = true) (hnames : ∀ n ∈ names, Bundle.fit n = true)
    (hk : (Cond.classLink own ik cls).before args s = true) (hini : (Cond.initialized cls).before args s = true) (hat : ∀ w ∈ vx_at0 own ic cls names, w.before args s = true)
    (hgood : ∀ w ∈ Cond.classLink own ik cls :: Cond.initialized cls :: vx_at0 own ic cls names, vx_ot w = true)
    (hU : vx_Zq Bundle.tN "UNASSIGNED_STACK" Bundle.steD A s s.heap) (hN : vx_Zq Bundle.tN "SUPPRESSED_SENTINEL" Bundle.listD A s s.heap) (hS : va_S A s.heap H locs) (hsize : ls.size = c.maxLocals)
    (d0 : decode cc pc = .ok (.new ik, 3)) (d3 : decode cc (pc + 3) = .ok (.dup, 1)) (d4 : decode cc (pc + 4) = .ok (.invokespecial ic, 3)) (d7 : decode cc (pc + 7) = .ok (.athrow, 1))
    (hout : ∀ x ∈ c.exceptionTable.toList, covers x (pc + 7) = false)
    (hRframes : names.length + 3 < R.frames) (hRlocals : (rest.map fun v => v.category).sum + (13 * (names.length + 1) + 42) ≤ R.locals) (hRcells : cells + 1 ≤ R.cells) (hRslots : slots + 6 ≤ R.slots) (hlocks : meth.locks = false)
    (hx : ∀ t : State, s.vm.Alike t.vm → H.size ≤ t.heap.size → (∀ q : Nat, q < H.size → t.heap[q]? = H[q]?) → XC cls s t)
    (hf : ∀ z ∈ locs, free z.base) (hc : cells + 1 ≤ mc) (hs : slots + 6 ≤ ms) :
    W p l e R s m args below meth c H locs cells slots (vx_MQ below Qc XC args s mc ms free) (F0 m pc ls rest) := by
  intro T hT X
  have htr : e.platform.stackTraces = false := (show e.platform.stackTraces = l.stackTraces by rw [X.admits.platform]).trans hl
  have Y := vx_rebase X (R' := { frames := R.frames, locals := R.locals, cells := 1, slots := 6 }) (Nat.le_refl _) (Nat.le_refl _) hRcells hRslots
  obtain ⟨s', hA⟩ : ∃ z, z = (T.setVm s.vm).setFrames (.invoking m args :: below) := ⟨_, rfl⟩
  rw [← hA] at Y
  have hvm : s'.vm = s.vm := by rw [hA]; rfl
  have hhp : s'.heap = H := by rw [hA]; exact hT
  have hW0 : s.WarmedH s'.vm := by rw [hvm]; exact State.WarmedH.refl s
  have hat' : ∀ w ∈ vx_at0 own ic cls names, w.before args s' = true := fun w hw => vx_ot_at hW0 hvm.symm (hgood w (List.mem_cons_of_mem _ (List.mem_cons_of_mem _ hw))) (hat w hw)
  have hk' : (Cond.classLink own ik cls).before args s' = true := vx_ot_at hW0 hvm.symm (hgood _ List.mem_cons_self) hk
  have hini' : (Cond.initialized cls).before args s' = true := vx_ot_at hW0 hvm.symm (hgood _ (List.mem_cons_of_mem _ List.mem_cons_self)) hini
  have hU' : vx_Zq Bundle.tN "UNASSIGNED_STACK" Bundle.steD A s' s'.heap := by rw [hhp]; exact vx_Zq.moved hW0.alike (hU.kept hS.2.1)
  have hN' : vx_Zq Bundle.tN "SUPPRESSED_SENTINEL" Bundle.listD A s' s'.heap := by rw [hhp]; exact vx_Zq.moved hW0.alike (hN.kept hS.2.1)
  have h : ∀ w ∈ Bundle.ownAtoms0 own ic cls names, w.before args s' = true := vx_own hat' (vx_isRefq hU'.1) (vx_isRefq hN'.1) hU'.2.word hN'.2.word
  have hown' : s'.vm.findClass own = some m.cls := by rw [hvm]; exact hown
  have hins : (Cond.instantiable cls 6).before args s' = true := h _ (by simp [Bundle.ownAtoms0])
  obtain ⟨vm₁, cX, kX, hfX, hkX, -, -, X₁, st1⟩ := Y.newCold hexec (own := own) (C := cls) (index := ik) (n := 6) hown' hk' hins hini'
    (g := F0 m pc ls rest) rfl (by rw [hb]; exact d0) (Nat.le_refl _) (Nat.le_refl _)
  generalize hT1 : (T.setVm vm₁).pushCell { cls := cX, slots := kX.instanceTypes.map defaultValue, vm := .none } = T1 at X₁ st1
  have hcat : (Value.ref T.heap.size).category = 1 := rfl
  have hcellA : T1.heap[T.heap.size]? = some (freshCell cX kX) := by rw [← hT1]; exact State.heap_pushCell_size _ _
  have d3' : decode c.code (pc + 3) = .ok (.dup, 1) := by rw [hb]; exact d3
  obtain ⟨U, hsteps, hrun, hend, hW, hsame, ce, hce, hO⟩ := X₁.ctorThrow0 hexec htr (own := own) (cls := cls) (names := names) (ic := ic) hown' hcls hnames h (fun x hx => nomatch hx) hfX hkX hcellA (by rw [hhp, hT]; exact Nat.le_refl _)
    (g := { method := m, pc := pc + 4, locals := ls, stack := .ref T.heap.size :: .ref T.heap.size :: rest, locked := none }) rfl hsize rfl rfl (rest := rest) rfl
    (by rw [hb]; exact d4) (by rw [hb]; exact d7) hout hRframes (by simp only [List.map_cons, List.sum_cons, hcat]; omega) hlocks
  obtain ⟨f1, f2⟩ := vx_frame hsame
  rw [hhp] at f1 f2
  have hWs : s.WarmedH U.vm := State.WarmedH.trans hW0 hW
  have hcl : s.vm.findClass cls = some ce.cls := by
    have h9 := hO.cls
    rw [hvm] at h9
    exact h9
  have hall : s.sameButNew ({ U with vm := s.vm } : State) locs mc ms := by
    subst hA
    obtain ⟨e1, e2⟩ := hsame
    rw [State.setFrames_setFrames] at e1
    have h2 : (T.setVm s.vm).sameButNew ({ U with vm := s.vm } : State) [] (0 + 1) (0 + 6) := ⟨e1, e2⟩
    have h3 := X.same.trans h2
    rw [List.append_nil] at h3
    exact h3.mono hc hs
  refine ⟨U, ?_, .threw T.heap.size, hrun, hend, Or.inr ⟨T.heap.size, rfl, cls, ce, locs, hx U hWs.alike f1 (fun q hq => f2 q hq (fun z hz => nomatch hz)), hce, hO.vm, hcl, hWs, hall, hf⟩⟩
  refine st1 _ ?_
  show Steps p.tables e below (T1.setTop { method := m, pc := pc + 3, locals := ls, stack := .ref T.heap.size :: rest, locked := none }) _
  jvm_step X₁.here [X₁.here.top, hexec, d3', Value.category]
  exact hsteps
/-- 'throw new E("text")': new; dup; ldc; invokespecial; athrow -/
theorem vx_throwS {cc : ByteArray} {pc : Nat} (hexec : p.tables.exec = Jvm.exec) (hb : c.code = cc) (hl : l.stackTraces = false) {own cls text : String} {names : List String} {ik is ic mc ms sa : Nat} {A : Nat → Prop}
    (hown : s.vm.findClass own = some m.cls) (hcls : Bundle.fit cls = true) (hnames : ∀ n ∈ names, Bundle.fit n = true)
    (hk : (Cond.classLink own ik cls).before args s = true) (hini : (Cond.initialized cls).before args s = true) (hstr : vk_R own is text sa s) (hat : ∀ w ∈ vx_atS own ic cls names, w.before args s = true)
    (hgood : ∀ w ∈ Cond.classLink own ik cls :: Cond.initialized cls :: vx_atS own ic cls names, vx_ot w = true)
    (hU : vx_Zq Bundle.tN "UNASSIGNED_STACK" Bundle.steD A s s.heap) (hN : vx_Zq Bundle.tN "SUPPRESSED_SENTINEL" Bundle.listD A s s.heap) (hS : va_S A s.heap H locs) (hsize : ls.size = c.maxLocals)
    (d0 : decode cc pc = .ok (.new ik, 3)) (d3 : decode cc (pc + 3) = .ok (.dup, 1)) (d4 : decode cc (pc + 4) = .ok (.ldc is, 2)) (d6 : decode cc (pc + 6) = .ok (.invokespecial ic, 3)) (d9 : decode cc (pc + 9) = .ok (.athrow, 1))
    (hout : ∀ x ∈ c.exceptionTable.toList, covers x (pc + 9) = false)
    (hRframes : names.length + 3 < R.frames) (hRlocals : (rest.map fun v => v.category).sum + (13 * (names.length + 1) + 43) ≤ R.locals) (hRcells : cells + 1 ≤ R.cells) (hRslots : slots + 6 ≤ R.slots) (hlocks : meth.locks = false)
    (hx : ∀ t : State, s.vm.Alike t.vm → H.size ≤ t.heap.size → (∀ q : Nat, q < H.size → t.heap[q]? = H[q]?) → XC cls s t)
    (hf : ∀ z ∈ locs, free z.base) (hc : cells + 1 ≤ mc) (hs : slots + 6 ≤ ms) :
    W p l e R s m args below meth c H locs cells slots (vx_MQ below Qc XC args s mc ms free) (F0 m pc ls rest) := by
  intro T hT X
  have htr : e.platform.stackTraces = false := (show e.platform.stackTraces = l.stackTraces by rw [X.admits.platform]).trans hl
  have Y := vx_rebase X (R' := { frames := R.frames, locals := R.locals, cells := 1, slots := 6 }) (Nat.le_refl _) (Nat.le_refl _) hRcells hRslots
  obtain ⟨s', hA⟩ : ∃ z, z = (T.setVm s.vm).setFrames (.invoking m args :: below) := ⟨_, rfl⟩
  rw [← hA] at Y
  have hvm : s'.vm = s.vm := by rw [hA]; rfl
  have hhp : s'.heap = H := by rw [hA]; exact hT
  have hW0 : s.WarmedH s'.vm := by rw [hvm]; exact State.WarmedH.refl s
  have hat' : ∀ w ∈ vx_atS own ic cls names, w.before args s' = true := fun w hw => vx_ot_at hW0 hvm.symm (hgood w (List.mem_cons_of_mem _ (List.mem_cons_of_mem _ hw))) (hat w hw)
  have hk' : (Cond.classLink own ik cls).before args s' = true := vx_ot_at hW0 hvm.symm (hgood _ List.mem_cons_self) hk
  have hini' : (Cond.initialized cls).before args s' = true := vx_ot_at hW0 hvm.symm (hgood _ (List.mem_cons_of_mem _ List.mem_cons_self)) hini
  have hU' : vx_Zq Bundle.tN "UNASSIGNED_STACK" Bundle.steD A s' s'.heap := by rw [hhp]; exact vx_Zq.moved hW0.alike (hU.kept hS.2.1)
  have hN' : vx_Zq Bundle.tN "SUPPRESSED_SENTINEL" Bundle.listD A s' s'.heap := by rw [hhp]; exact vx_Zq.moved hW0.alike (hN.kept hS.2.1)
  have h : ∀ w ∈ Bundle.ownAtoms own ic cls names, w.before args s' = true := vx_own hat' (vx_isRefq hU'.1) (vx_isRefq hN'.1) hU'.2.word hN'.2.word
  have hown' : s'.vm.findClass own = some m.cls := by rw [hvm]; exact hown
  have hins : (Cond.instantiable cls 6).before args s' = true := h _ (by simp [Bundle.ownAtoms])
  obtain ⟨vm₁, cX, kX, hfX, hkX, -, -, X₁, st1⟩ := Y.newCold hexec (own := own) (C := cls) (index := ik) (n := 6) hown' hk' hins hini'
    (g := F0 m pc ls rest) rfl (by rw [hb]; exact d0) (Nat.le_refl _) (Nat.le_refl _)
  generalize hT1 : (T.setVm vm₁).pushCell { cls := cX, slots := kX.instanceTypes.map defaultValue, vm := .none } = T1 at X₁ st1
  have hcat : (Value.ref T.heap.size).category = 1 := rfl
  have hcellA : T1.heap[T.heap.size]? = some (freshCell cX kX) := by rw [← hT1]; exact State.heap_pushCell_size _ _
  have d3' : decode c.code (pc + 3) = .ok (.dup, 1) := by rw [hb]; exact d3
  have d4' : decode c.code (pc + 4) = .ok (.ldc is, 2) := by rw [hb]; exact d4
  have hstr' : vk_R own is text sa s' := vk_R.warm hW0 hstr
  obtain ⟨U, hsteps, hrun, hend, hW, hsame, ce, hce, hO⟩ := X₁.ctorThrowS hexec htr (own := own) (cls := cls) (names := names) (ic := ic) hown' hcls hnames h (fun x hx => nomatch hx) hfX hkX hcellA (by rw [hhp, hT]; exact Nat.le_refl _) (msg := .ref sa) rfl
    (g := { method := m, pc := pc + 6, locals := ls, stack := .ref sa :: .ref T.heap.size :: .ref T.heap.size :: rest, locked := none }) rfl hsize rfl rfl (rest := rest) rfl
    (by rw [hb]; exact d6) (by rw [hb]; exact d9) hout hRframes (by simp only [List.map_cons, List.sum_cons, hcat]; omega) hlocks
  obtain ⟨f1, f2⟩ := vx_frame hsame
  rw [hhp] at f1 f2
  have hWs : s.WarmedH U.vm := State.WarmedH.trans hW0 hW
  have hcl : s.vm.findClass cls = some ce.cls := by
    have h9 := hO.cls
    rw [hvm] at h9
    exact h9
  have hall : s.sameButNew ({ U with vm := s.vm } : State) locs mc ms := by
    subst hA
    obtain ⟨e1, e2⟩ := hsame
    rw [State.setFrames_setFrames] at e1
    have h2 : (T.setVm s.vm).sameButNew ({ U with vm := s.vm } : State) [] (0 + 1) (0 + 6) := ⟨e1, e2⟩
    have h3 := X.same.trans h2
    rw [List.append_nil] at h3
    exact h3.mono hc hs
  refine ⟨U, ?_, .threw T.heap.size, hrun, hend, Or.inr ⟨T.heap.size, rfl, cls, ce, locs, hx U hWs.alike f1 (fun q hq => f2 q hq (fun z hz => nomatch hz)), hce, hO.vm, hcl, hWs, hall, hf⟩⟩
  refine st1 _ ?_
  show Steps p.tables e below (T1.setTop { method := m, pc := pc + 3, locals := ls, stack := .ref T.heap.size :: rest, locked := none }) _
  jvm_step X₁.here [X₁.here.top, hexec, d3', Value.category]
  exact X₁.ldcString hexec (own := own) (text := text) (index := is) (a := sa) hown' hstr'.1 hstr'.2
    (g := { method := m, pc := pc + 4, locals := ls, stack := .ref T.heap.size :: .ref T.heap.size :: rest, locked := none }) rfl d4' _ hsteps
/-- 'throw new E("text")', the text by a wide index -/
theorem vx_throwSW {cc : ByteArray} {pc : Nat} (hexec : p.tables.exec = Jvm.exec) (hb : c.code = cc) (hl : l.stackTraces = false) {own cls text : String} {names : List String} {ik is ic mc ms sa : Nat} {A : Nat → Prop}
    (hown : s.vm.findClass own = some m.cls) (hcls : Bundle.fit cls = true) (hnames : ∀ n ∈ names, Bundle.fit n = true)
    (hk : (Cond.classLink own ik cls).before args s = true) (hini : (Cond.initialized cls).before args s = true) (hstr : vk_R own is text sa s) (hat : ∀ w ∈ vx_atS own ic cls names, w.before args s = true)
    (hgood : ∀ w ∈ Cond.classLink own ik cls :: Cond.initialized cls :: vx_atS own ic cls names, vx_ot w = true)
    (hU : vx_Zq Bundle.tN "UNASSIGNED_STACK" Bundle.steD A s s.heap) (hN : vx_Zq Bundle.tN "SUPPRESSED_SENTINEL" Bundle.listD A s s.heap) (hS : va_S A s.heap H locs) (hsize : ls.size = c.maxLocals)
    (d0 : decode cc pc = .ok (.new ik, 3)) (d3 : decode cc (pc + 3) = .ok (.dup, 1)) (d4 : decode cc (pc + 4) = .ok (.ldc_w is, 3)) (d7 : decode cc (pc + 7) = .ok (.invokespecial ic, 3)) (d10 : decode cc (pc + 10) = .ok (.athrow, 1))
    (hout : ∀ x ∈ c.exceptionTable.toList, covers x (pc + 10) = false)
    (hRframes : names.length + 3 < R.frames) (hRlocals : (rest.map fun v => v.category).sum + (13 * (names.length + 1) + 43) ≤ R.locals) (hRcells : cells + 1 ≤ R.cells) (hRslots : slots + 6 ≤ R.slots) (hlocks : meth.locks = false)
    (hx : ∀ t : State, s.vm.Alike t.vm → H.size ≤ t.heap.size → (∀ q : Nat, q < H.size → t.heap[q]? = H[q]?) → XC cls s t)
    (hf : ∀ z ∈ locs, free z.base) (hc : cells + 1 ≤ mc) (hs : slots + 6 ≤ ms) :
    W p l e R s m args below meth c H locs cells slots (vx_MQ below Qc XC args s mc ms free) (F0 m pc ls rest) := by
  intro T hT X
  have htr : e.platform.stackTraces = false := (show e.platform.stackTraces = l.stackTraces by rw [X.admits.platform]).trans hl
  have Y := vx_rebase X (R' := { frames := R.frames, locals := R.locals, cells := 1, slots := 6 }) (Nat.le_refl _) (Nat.le_refl _) hRcells hRslots
  obtain ⟨s', hA⟩ : ∃ z, z = (T.setVm s.vm).setFrames (.invoking m args :: below) := ⟨_, rfl⟩
  rw [← hA] at Y
  have hvm : s'.vm = s.vm := by rw [hA]; rfl
  have hhp : s'.heap = H := by rw [hA]; exact hT
  have hW0 : s.WarmedH s'.vm := by rw [hvm]; exact State.WarmedH.refl s
  have hat' : ∀ w ∈ vx_atS own ic cls names, w.before args s' = true := fun w hw => vx_ot_at hW0 hvm.symm (hgood w (List.mem_cons_of_mem _ (List.mem_cons_of_mem _ hw))) (hat w hw)
  have hk' : (Cond.classLink own ik cls).before args s' = true := vx_ot_at hW0 hvm.symm (hgood _ List.mem_cons_self) hk
  have hini' : (Cond.initialized cls).before args s' = true := vx_ot_at hW0 hvm.symm (hgood _ (List.mem_cons_of_mem _ List.mem_cons_self)) hini
  have hU' : vx_Zq Bundle.tN "UNASSIGNED_STACK" Bundle.steD A s' s'.heap := by rw [hhp]; exact vx_Zq.moved hW0.alike (hU.kept hS.2.1)
  have hN' : vx_Zq Bundle.tN "SUPPRESSED_SENTINEL" Bundle.listD A s' s'.heap := by rw [hhp]; exact vx_Zq.moved hW0.alike (hN.kept hS.2.1)
  have h : ∀ w ∈ Bundle.ownAtoms own ic cls names, w.before args s' = true := vx_own hat' (vx_isRefq hU'.1) (vx_isRefq hN'.1) hU'.2.word hN'.2.word
  have hown' : s'.vm.findClass own = some m.cls := by rw [hvm]; exact hown
  have hins : (Cond.instantiable cls 6).before args s' = true := h _ (by simp [Bundle.ownAtoms])
  obtain ⟨vm₁, cX, kX, hfX, hkX, -, -, X₁, st1⟩ := Y.newCold hexec (own := own) (C := cls) (index := ik) (n := 6) hown' hk' hins hini'
    (g := F0 m pc ls rest) rfl (by rw [hb]; exact d0) (Nat.le_refl _) (Nat.le_refl _)
  generalize hT1 : (T.setVm vm₁).pushCell { cls := cX, slots := kX.instanceTypes.map defaultValue, vm := .none } = T1 at X₁ st1
  have hcat : (Value.ref T.heap.size).category = 1 := rfl
  have hcellA : T1.heap[T.heap.size]? = some (freshCell cX kX) := by rw [← hT1]; exact State.heap_pushCell_size _ _
  have d3' : decode c.code (pc + 3) = .ok (.dup, 1) := by rw [hb]; exact d3
  have d4' : decode c.code (pc + 4) = .ok (.ldc_w is, 3) := by rw [hb]; exact d4
  have hstr' : vk_R own is text sa s' := vk_R.warm hW0 hstr
  obtain ⟨U, hsteps, hrun, hend, hW, hsame, ce, hce, hO⟩ := X₁.ctorThrowS hexec htr (own := own) (cls := cls) (names := names) (ic := ic) hown' hcls hnames h (fun x hx => nomatch hx) hfX hkX hcellA (by rw [hhp, hT]; exact Nat.le_refl _) (msg := .ref sa) rfl
    (g := { method := m, pc := pc + 7, locals := ls, stack := .ref sa :: .ref T.heap.size :: .ref T.heap.size :: rest, locked := none }) rfl hsize rfl rfl (rest := rest) rfl
    (by rw [hb]; exact d7) (by rw [hb]; exact d10) hout hRframes (by simp only [List.map_cons, List.sum_cons, hcat]; omega) hlocks
  obtain ⟨f1, f2⟩ := vx_frame hsame
  rw [hhp] at f1 f2
  have hWs : s.WarmedH U.vm := State.WarmedH.trans hW0 hW
  have hcl : s.vm.findClass cls = some ce.cls := by
    have h9 := hO.cls
    rw [hvm] at h9
    exact h9
  have hall : s.sameButNew ({ U with vm := s.vm } : State) locs mc ms := by
    subst hA
    obtain ⟨e1, e2⟩ := hsame
    rw [State.setFrames_setFrames] at e1
    have h2 : (T.setVm s.vm).sameButNew ({ U with vm := s.vm } : State) [] (0 + 1) (0 + 6) := ⟨e1, e2⟩
    have h3 := X.same.trans h2
    rw [List.append_nil] at h3
    exact h3.mono hc hs
  refine ⟨U, ?_, .threw T.heap.size, hrun, hend, Or.inr ⟨T.heap.size, rfl, cls, ce, locs, hx U hWs.alike f1 (fun q hq => f2 q hq (fun z hz => nomatch hz)), hce, hO.vm, hcl, hWs, hall, hf⟩⟩
  refine st1 _ ?_
  show Steps p.tables e below (T1.setTop { method := m, pc := pc + 3, locals := ls, stack := .ref T.heap.size :: rest, locked := none }) _
  jvm_step X₁.here [X₁.here.top, hexec, d3', Value.category]
  exact X₁.ldcStringW hexec (own := own) (text := text) (index := is) (a := sa) hown' hstr'.1 hstr'.2
    (g := { method := m, pc := pc + 4, locals := ls, stack := .ref T.heap.size :: .ref T.heap.size :: rest, locked := none }) rfl d4' _ hsteps
end Ends
section Bodies
variable {l : Launch}
theorem vx_ofW {y : MethodName} {ws ws' : List Cond} {rm : Room} {Pc : Array Value → State → Prop} {Qc : Array Value → State → Outcome → State → Prop} {XC : String → State → State → Prop} {mc ms : Nat} {free : Addr → Prop} {cc : ByteArray} {maxL : Nat} {ret : Option FieldType}
    (hy : plainName y.cls = true) (hw : ws = Cond.code y cc maxL ret :: ws')
    (body : ∀ p e s m args below meth c s₁, BodyLoose p l y (headSpec ws rm) cc maxL ret e s m args below meth c s₁ → c.maxLocals = maxL → (∀ x ∈ c.exceptionTable.toList, False) → Pc args s →
      W p l e (headSpec ws rm).room s m args below meth c s.heap [] 0 0 (vx_MQ below Qc XC args s mc ms free) (entryFrame m args maxL)) : vx_Met l y ws rm Pc Qc XC mc ms free := by
  refine MetFree.of_bodyS (code := cc) (maxLocals := maxL) (ret := ret) hy ?_ ?_
  · intro args s m h hn
    obtain ⟨meth, c, h1, h2, h3, h4, h5, h6, -, -⟩ := Cond.code_spec hn (atoms_spec (ws := ws) h _ (by rw [hw]; exact List.mem_cons_self))
    exact ⟨meth, c, h1, h2, h3, h4, h5, h6⟩
  · intro p e s m args below meth c s₁ B hml hP _
    have hh0 : s₁.heap = s.heap := by rw [B.state]; rfl
    have ht : ∀ x ∈ c.exceptionTable.toList, False := by
      obtain ⟨meth9, c9, h1, h2, -, -, -, -, h7, -⟩ := Cond.code_spec B.named (atoms_spec (ws := ws) B.pre _ (by rw [hw]; exact List.mem_cons_self))
      cases Option.some.inj (h1.symm.trans B.method)
      cases Option.some.inj (h2.symm.trans (Stand.of_body B).code)
      intro x hx
      rw [Array.isEmpty_iff.mp h7] at hx
      cases hx
    obtain ⟨t, a1, o, b1, b2, b3⟩ := body p e s m args below meth c s₁ B hml ht hP s₁ hh0 (Stand.of_body B)
    exact ⟨t, o, a1, b1, b2, b3⟩
/-- the table of a body with handlers -/
theorem vx_table {p : Program} {x y : MethodName} {S : Spec} {cc bytes : ByteArray} {maxL maxL' : Nat} {ret ret' : Option FieldType} {e : Env} {s s₁ : State} {m : MethodId} {args : Array Value} {below : List Frame} {meth : Method} {c : Code} {hh : List (Nat × Nat × Nat × Nat)}
    (B : BodyLoose p l y S cc maxL ret e s m args below meth c s₁) (h : (Cond.codeWith y bytes maxL' ret' hh).before args s = true) : c.exceptionTable.toList = tableOf hh := by
  obtain ⟨m9, meth9, c9, hn9, h1, h2, -, -, h6, -⟩ := Cond.codeWith_spec h
  cases Option.some.inj (hn9.symm.trans B.named)
  cases Option.some.inj (h1.symm.trans B.method)
  cases Option.some.inj (h2.symm.trans (Stand.of_body B).code)
  rw [← h6, table_eq]
end Bodies
end VXA
/-! ===== END ===== -/
/-! ===== BEGIN a static call of a method with an exception table ===== -/
section VXS
variable {p : Program} {l : Launch} {e : Env} {R : Room} {s : State} {m : MethodId} {args : Array Value} {below : List Frame} {meth : Method} {c : Code} {T : State} {H : Heap} {locs : List Loc} {cells slots : Nat}
abbrev vx_CSW (R : Room) (s : State) (args : Array Value) (own : String) (index : Nat) (y : MethodName) (bytes : ByteArray) (maxL : Nat) (ret : Option FieldType) (hh : List (Nat × Nat × Nat × Nat)) (ws : List Cond) (rm : Room) (mc ms n : Nat) : Prop :=
  (rm.cells = mc ∧ rm.slots = ms ∧ rm.frames + 1 ≤ R.frames ∧ 8 + (maxL + 11) + rm.locals ≤ R.locals ∧ (∀ w ∈ ws, ∀ (a' : Array Value) (U : State), s.WarmedH U.vm → w.before a' U = true) ∧ Cond.codeWith y bytes maxL ret hh ∈ ws) ∧
  (Cond.codeWith y bytes maxL ret hh).before args s = true ∧ (Cond.initialized y.cls).before args s = true ∧ (y.cls ≠ "java/lang/invoke/MethodHandle" ∧ y.cls ≠ "java/lang/invoke/VarHandle") ∧
  (∀ sig, parseMethodDescriptor y.desc = some sig → n = sig.parameters.length) ∧ (Cond.methodLink own index y).before args s = true ∧ (Cond.static y).before args s = true
theorem vx_cwSW {own : String} {index maxL mc ms : Nat} {y : MethodName} {bytes : ByteArray} {ret : Option FieldType} {hh : List (Nat × Nat × Nat × Nat)} {Ts ws ws' : List Cond} {rm : Room} (n : Nat) (ht : ∀ w ∈ Ts, w.before args s = true) (hT : GoodIn Ts (va_wsS own index y ws)) (hw : ws = Cond.codeWith y bytes maxL ret hh :: ws') (hrc : rm.cells = mc) (hrs : rm.slots = ms)
    (hd : y.cls ≠ "java/lang/invoke/MethodHandle" ∧ y.cls ≠ "java/lang/invoke/VarHandle" ∧ (parseMethodDescriptor y.desc).map (fun d => d.parameters.length) = some n) (hR : rm.frames + 1 ≤ R.frames ∧ 8 + (maxL + 11) + rm.locals ≤ R.locals) :
    vx_CSW R s args own index y bytes maxL ret hh ws rm mc ms n := by
  have ok : ∀ w ∈ va_wsS own index y ws, w.before args s = true := fun w h => ht w (hT w h).1
  have hG : GoodIn Ts ws := fun w h => hT w (by unfold va_wsS; exact List.mem_append_right _ h)
  have hc : Cond.codeWith y bytes maxL ret hh ∈ ws := by rw [hw]; exact List.mem_cons_self
  refine ⟨⟨hrc, hrs, hR.1, hR.2, pay_in ht hG, hc⟩, ht _ (hG _ hc).1, ok _ (by simp [va_wsS]), ⟨hd.1, hd.2.1⟩, fun sig h => ?_, ok _ (by simp [va_wsS]), ok _ (by simp [va_wsS])⟩
  have h2 := hd.2.2
  rw [h] at h2
  exact (Option.some.inj h2).symm
theorem vx_callSW (X : Stand p l e R s m args below meth c T locs cells slots) (hexec : p.tables.exec = Jvm.exec) {own : String} {index : Nat} {y : MethodName} {bytes : ByteArray} {maxL : Nat} {ret : Option FieldType} {hh : List (Nat × Nat × Nat × Nat)}
    (hown : s.vm.findClass own = some m.cls) (hlink : (Cond.methodLink own index y).before args s = true) (hstat : (Cond.static y).before args s = true) (hinit : (Cond.initialized y.cls).before args s = true)
    (hcode : (Cond.codeWith y bytes maxL ret hh).before args s = true) (hy : y.cls ≠ "java/lang/invoke/MethodHandle" ∧ y.cls ≠ "java/lang/invoke/VarHandle")
    {W9 : Nat} {Pre : Pt → Array Value → Prop} {Post : Pt → Array Value → Option Value → Pt → Prop} (hK : Back l R p e below s args y 3 W9 Pre Post)
    {g : JFrame} (hg : g.method = m) (hsize : g.locals.size = c.maxLocals) {argsL rest : List Value} (hlen : ∀ sig, parseMethodDescriptor y.desc = some sig → argsL.length = sig.parameters.length)
    (hstack : g.stack = argsL.reverse ++ rest) (hW : 2 * g.monitorRoom + (rest.map fun v => v.category).sum ≤ W9) (hdg : decode c.code g.pc = .ok (.invokestatic index, 3))
    (hpre : ∀ vm₁, s.WarmedH vm₁ → Pre ⟨T.setVm vm₁, locs, cells, slots⟩ argsL.toArray) :
    ∃ (v : Option Value) (vm₁ : Vm) (B : Pt), s.WarmedH vm₁ ∧ Stand p l e R s m args below meth c B.U B.locs B.cells B.slots ∧ Post ⟨T.setVm vm₁, locs, cells, slots⟩ argsL.toArray v B ∧
      ∀ target, Steps p.tables e below (B.U.setTop { g with pc := g.pc + 3, stack := v.toList ++ rest }) target → Steps p.tables e below (T.setTop g) target := by
  obtain ⟨mk, methM, cM, hnamed, hmethM, -, -, -, -, -, -, hsigM⟩ := Cond.codeWith_spec hcode
  have hstatic : methM.isStatic = true := Cond.static_spec hnamed hmethM hstat
  obtain ⟨kP, hkP, -⟩ := className_of_methodNamed hnamed
  have hinitP : kP.init = .initialized := Cond.initialized_spec (findClass_of_methodNamed hnamed) hkP hinit
  obtain ⟨vm₁, X₁, hstep₁⟩ := X.invokestatic hexec hown hlink hnamed hmethM hstatic hkP hinitP hy (g := g) hg (argsL := argsL) (rest := rest) (hlen _ hsigM) hstack hdg
  obtain ⟨v, B, X', hpost, hsteps⟩ := hK m meth c ⟨T.setVm vm₁, locs, cells, slots⟩ { g with stack := rest } (.invokestatic index) mk argsL.toArray X₁ hg hsize hdg hW (X₁.named hnamed) (hpre vm₁ X₁.warmed)
  exact ⟨v, vm₁, B, X₁.warmed, X', hpost, fun target h => hstep₁ _ fun acts => by rw [doInvoke_state]; exact hsteps.trans h⟩
theorem vx_runSW {y : MethodName} {bytes cc : ByteArray} {maxL nL mc ms n index : Nat} {ret : Option FieldType} {hh : List (Nat × Nat × Nat × Nat)} {ws : List Cond} {rm : Room} {Pc : Array Value → State → Prop} {Qc : Array Value → State → Outcome → State → Prop} {free : Addr → Prop} {Ts : List Cond} {own : String} {As rest : List Value} {g : JFrame}
    (S : CallFix p m c cc nL s args Ts own) (hM : Met l y ws rm Pc Qc mc ms free) (cw : vx_CSW R s args own index y bytes maxL ret hh ws rm mc ms n) (hp : PreS s H Pc As)
    (hg : g.method = m) (hn : As.length = n) (hsize : g.locals.size = nL) (hstack : g.stack = As.reverse ++ rest) (hW : 2 * g.monitorRoom + (rest.map fun v => v.category).sum ≤ 8) (hdg : decode cc g.pc = .ok (.invokestatic index, 3)) (hf : cells + mc ≤ R.cells ∧ slots + ms ≤ R.slots) :
    va_Run p l e R s m args below meth c H locs cells slots mc ms g rest (Qc As.toArray) (free) := by
  obtain ⟨⟨hrc, hrs, hfr, hlo, hws, hcw⟩, hcode, hini, hy, hlen, hl, hstt⟩ := cw
  have hK : Back l R p e below s args y 3 8 (PreOf R mc ms Pc) (PostOf Qc mc ms free) := va_backW (hh := hh) (bytes := bytes) (maxL := maxL) (ret := ret) hM hp.1 hrc hrs hfr hlo hws hcw (fun a' U hW => word_at hW (Or.inl (by first | rfl | simp [Cond.onTables, Cond.keeps, Cond.steady])) hini)
  obtain ⟨hx, hb, hml, ho, -⟩ := S
  intro T hT X
  obtain ⟨v, vm₁, ⟨U', l2, c2, s2⟩, hW₁, X', ⟨g', mk, t, L, e1, e2, hq, h1, hL, h2, h3⟩, st⟩ := vx_callSW X hx (hh := hh) (bytes := bytes) (maxL := maxL) (ret := ret) ho hl hstt hini hcode hy hK hg (hsize.trans hml.symm) (argsL := As) (rest := rest) (fun sig h => hn.trans (hlen sig h)) hstack hW (by rw [hb]; exact hdg)
    (fun vm₁ hW₁ => ⟨hf.1, hf.2, hp.2 (T.setVm vm₁) hT hW₁⟩)
  dsimp only [Pt.U, Pt.locs, Pt.cells, Pt.slots] at X' e1 e2 h1 h2 h3 st
  subst h1; subst h2; subst h3
  exact ⟨v, (T.setVm vm₁).calling g' mk As.toArray, t, U', L, hT, X', hL, e1, e2, hq, st⟩
/-- not caught here, past rows that name other classes: it goes on to the caller -/
theorem vx_outP {p : Program} {l : Launch} {e : Env} {R : Room} {s : State} {m : MethodId} {args : Array Value} {below : List Frame} {meth : Method} {c : Code} {H : Heap} {locs : List Loc} {cells slots : Nat} {free : Addr → Prop} {ls : Array Slot} {rest : List Value} {Qc : Array Value → State → Outcome → State → Prop} {XC : String → State → State → Prop}
    {pc : Nat} {own E : String} {ce : Cell} {q : Addr} {mc ms : Nat} (hown : s.vm.findClass own = some m.cls) (hlocks : meth.locks = false)
    (hpass : ∀ z ∈ c.exceptionTable.toList, covers z pc = false ∨ (z.catchType ≠ 0 ∧ ∃ nm : String, (Cond.classLink own z.catchType nm).before args s = true ∧ va_Nc E nm s)) (hcell : H[q]? = some ce) (hv : ce.vm = .none) (hcl : s.vm.findClass E = some ce.cls)
    (hx : ∀ t : State, t.heap = H → s.vm.Alike t.vm → XC E s t) (hf : ∀ z ∈ locs, free z.base) (hc : cells ≤ mc) (hs : slots ≤ ms) :
    vx_W p l e R s m args below meth c H locs cells slots (vx_MQ below Qc XC args s mc ms free) (F0 m pc ls rest) q := by
  intro T hT X
  have hpl : e.platform.magicAccessors = ({} : Platform).magicAccessors := by rw [X.admits.platform]
  obtain ⟨vm', hW', X', st⟩ := X.outThrough hlocks q (g := F0 m pc ls rest) rfl rfl rfl (cell := ce) (by rw [hT]; exact hcell) (by rw [hv]; rfl)
    (by obtain ⟨k9, h9, -⟩ := Vm.findClass_spec hcl; exact ⟨k9, h9⟩) (fun z hz => by
      rcases hpass z hz with h | ⟨hz0, nm, hl1, hn1⟩
      · exact Or.inl h
      · obtain ⟨c6, hc6, hcl6⟩ := Cond.classLink_spec hown hl1 e.platform hpl
        obtain ⟨a8, b8, h1, h2, h3⟩ := hn1
        cases Option.some.inj (h1.symm.trans hcl)
        cases Option.some.inj (h2.symm.trans hc6)
        exact Or.inr ⟨hz0, _, hcl6, h3⟩)
  obtain ⟨g₀, hfr⟩ := X'.frames_eq
  have hcell9 : ((T.setVm vm').setFrames (.throwing q :: below)).heap[q]? = some ce := by
    show T.heap[q]? = some ce
    rw [hT]; exact hcell
  have hend : Ended ((T.setVm vm').setFrames (.throwing q :: below)) below (.threw q) := State.frames_setFrames _ (State.cur_lt_of_frames hfr)
  refine ⟨(T.setVm vm').setFrames (.throwing q :: below), ?_, .threw q, X'.here.running, hend, Or.inr ⟨q, rfl, E, ce, locs, hx _ hT (X'.ends _).1.alike, hcell9, hv, hcl, (X'.ends _).1, (X'.ends _).2.mono hc hs, hf⟩⟩
  rw [X.pushThrowing_eq]
  exact st
/-- a thing of a world lies in the heap -/
theorem vx_lt {D : va_G} {cl : List vw_C} {ws : va_W} {H1 : Heap} (h : va_P D cl ws H1) {k : Nat} {q : Nat × va_E} (hk : ws[k]? = some q) : q.1 < H1.size := (h k q hk).lt
end VXS
/-! ===== END ===== -/
/-! ===== BEGIN methods with a table of their own: called by a name, returning or throwing ===== -/
section VXH
/-! vx_backW, vx_callVX, vx_callSX, vx_callVW, vx_runVW, vx_runVX, vx_runSX, vx_ofWH follow the same proofs as their sisters above (Free/Laws.lean, Shelf42/LK1.lean); vx_outP calls Shelf42/NT130.lean (outThrough). -/
section
variable {l : Launch} {R : Room} {p : Program} {e : Env} {below : List Frame} {s : State} {sargs : Array Value} {y : MethodName} {len W9 : Nat}
theorem vx_backW {ws : List Cond} {rm : Room} {Pc : Array Value → State → Prop} {Qc : Array Value → State → Outcome → State → Prop} {XC : String → State → State → Prop} {mc ms : Nat} {free : Addr → Prop} {bytes : ByteArray} {maxL : Nat} {ret : Option FieldType} {hh : List (Nat × Nat × Nat × Nat)}
    (hM : vx_Met l y ws rm Pc Qc XC mc ms free) (hblind : FrameBlind Pc) (hrc : rm.cells = mc) (hrs : rm.slots = ms)
    (hframes : rm.frames + 1 ≤ R.frames) (hlocals : W9 + (maxL + 11) + rm.locals ≤ R.locals)
    (hws : ∀ w ∈ ws, ∀ a' U, s.WarmedH U.vm → w.before a' U = true) (hcode : Cond.codeWith y bytes maxL ret hh ∈ ws) (hinit : ∀ a' U, s.WarmedH U.vm → (Cond.initialized y.cls).before a' U = true) :
    vx_Back l R p e below s sargs y len W9 (PreOf R mc ms Pc) (PostOf Qc mc ms free) (vx_Post XC mc ms free) := by
  intro m meth c A g ig mk a X hg hsize hdg hW hn hp
  have h1 : (headSpec ws rm).pre.before a A.U = true := atoms_intro fun w hw => hws w hw _ _ X.warmed
  have h2 : (Cond.codeWith y bytes maxL ret hh).before a A.U = true := hws _ hcode _ _ X.warmed
  have h3 : (Cond.initialized y.cls).before a A.U = true := hinit _ _ X.warmed
  have h4 : A.cells + (headSpec ws rm).room.cells ≤ R.cells := by rw [show (headSpec ws rm).room.cells = mc from hrc]; exact hp.1
  have h5 : A.slots + (headSpec ws rm).room.slots ≤ R.slots := by rw [show (headSpec ws rm).room.slots = ms from hrs]; exact hp.2.1
  have hPc : Pc a (A.U.calling g mk a) := hblind _ _ _ _ hp.2.2
  obtain ⟨U, Ls, c0, s0⟩ := A
  dsimp only [Pt.U, Pt.locs, Pt.cells, Pt.slots] at h1 h2 h3 h4 h5 X hn hPc ⊢
  obtain ⟨m9, methY, cY, hn9, hmY, hcY, -, hlY, -⟩ := Cond.codeWith_spec h2
  cases Option.some.inj (hn9.symm.trans hn)
  obtain ⟨kY, hkY, -⟩ := className_of_methodNamed hn
  have hinitY : kY.init = .initialized := Cond.initialized_spec (findClass_of_methodNamed hn) hkY h3
  have h : At U g.method c below := by rw [hg]; exact X.here
  have hlocals9 : W9 + (maxL + 11) + (headSpec ws rm).room.locals ≤ R.locals := hlocals
  have happ : (headSpec ws rm).appliesLoose y e.platform (U.calling g mk a) = true :=
    Spec.appliesLoose_calling (g := g) h hdg hn hkY hinitY
      (X.room_calling (g := g) (R' := (headSpec ws rm).room) hsize hmY hcY hframes (by rw [hlY]; omega) h4 h5) h1
  obtain ⟨mid, hmid⟩ := h.above
  have hfr : (U.setTop g).frames = (.java g :: mid) ++ below := by rw [State.frames_setTop' g h.top, hmid]; rfl
  obtain ⟨o, s₂, hsteps, -, hend, hq⟩ := Steps.callFree hM p X.admits X.cas X.clock (acts := []) hfr happ hPc trivial
  have hq' : vx_Q Qc XC mc ms free a (U.calling g mk a) o s₂ := hq
  rw [State.frames_setTop' g h.top] at hend
  obtain ⟨g₀, hg0⟩ := Option.isSome_iff_exists.mp h.top
  obtain ⟨r, hr⟩ := State.topJava?_eq_some.mp hg0
  have hr' : (({ U with heap := s₂.heap, slotsUsed := s₂.slotsUsed } : State).setVm s₂.vm).frames = .java g₀ :: r := hr
  rcases hq' with ⟨hqc, L, hfe, hL⟩ | ⟨q, rfl, E, ce, L, hx, hce, hcv, hcl, hW₂, hsm, hL⟩
  · obtain ⟨⟨v, rfl⟩, hW₂, e2, q2, q3, q4, q5, q6⟩ := id hfe
    have e3 : s₂ = ({ (U.calling g mk a).setFrames s₂.frames with heap := s₂.heap, slotsUsed := s₂.slotsUsed } : State).setVm s₂.vm := by
      have : s₂ = ({ s₂ with vm := (U.calling g mk a).vm } : State).setVm s₂.vm := rfl
      rw [e2] at this
      exact this
    obtain ⟨c₂, i₂, len₂, hc₂, hd₂, hf₂⟩ := hend
    have hW' : U.WarmedH s₂.vm := hW₂
    have hcc : c₂ = c := by
      have h1 : s₂.code? g.method = U.code? g.method := by
        rw [State.code?_eq, State.code?_eq, hW'.alike.method?]
      exact Option.some.inj (hc₂.symm.trans (h1.trans h.code))
    subst hcc
    have hlen : len₂ = len := by rw [hdg] at hd₂; cases hd₂; rfl
    subst hlen
    have hs₂ : s₂ = (({ U with heap := s₂.heap, slotsUsed := s₂.slotsUsed } : State).setVm s₂.vm).setTop { g with pc := g.pc + len₂, stack := v.toList ++ g.stack } := by
      refine e3.trans ?_
      rw [hf₂, State.calling_eq h.top, State.setFrames_setFrames, State.setTop_of_frames _ hr', hr]
      rfl
    have hsame : U.sameButNew ({ U with heap := s₂.heap, slotsUsed := s₂.slotsUsed } : State) L mc ms := by
      refine ⟨?_, q2, q3, q4, q5, q6⟩
      obtain ⟨t, ht, -⟩ := State.frames_cons hr
      show ({ U with heap := s₂.heap, slotsUsed := s₂.slotsUsed } : State) = { U.setFrames U.frames with heap := s₂.heap, slotsUsed := s₂.slotsUsed }
      rw [State.setFrames_self ht]
    subst hg
    refine Or.inl ⟨v, ⟨(({ U with heap := s₂.heap, slotsUsed := s₂.slotsUsed } : State).setVm s₂.vm), Ls ++ L, c0 + mc, s0 + ms⟩,
      ⟨X.admits, X.cas, X.clock, X.frames, X.room, X.hears, X.method, X.code, (X.here.setHeapUsed s₂.heap s₂.slotsUsed).setVm hW'.alike, X.tail, State.WarmedH.trans X.warmed hW', X.limits, X.bytes, X.same.trans (hsame.setVm s.vm)⟩,
      ⟨g, mk, s₂, L, rfl, rfl, hqc, rfl, hL, rfl, rfl⟩, ?_⟩
    show Steps p.tables e below _ ((({ U with heap := s₂.heap, slotsUsed := s₂.slotsUsed } : State).setVm s₂.vm).setTop { g with pc := g.pc + len₂, stack := v.toList ++ g.stack })
    rw [← hs₂]
    exact hsteps
  · obtain ⟨e2, q2, q3, q4, q5, q6⟩ := id hsm
    have e3 : s₂ = ({ (U.calling g mk a).setFrames s₂.frames with heap := s₂.heap, slotsUsed := s₂.slotsUsed } : State).setVm s₂.vm := by
      have : s₂ = ({ s₂ with vm := (U.calling g mk a).vm } : State).setVm s₂.vm := rfl
      rw [e2] at this
      exact this
    have hf₂ : s₂.frames = .throwing q :: .java g :: U.frames.tail := hend
    have hW' : U.WarmedH s₂.vm := hW₂
    have hs₂ : s₂ = ((({ U with heap := s₂.heap, slotsUsed := s₂.slotsUsed } : State).setVm s₂.vm).setTop g).pushFrame (.throwing q) := by
      refine e3.trans ?_
      rw [hf₂, State.calling_eq h.top, State.setFrames_setFrames, State.pushFrame, State.frames_setTop _ hr', State.setTop_of_frames _ hr', State.setFrames_setFrames, hr]
      rfl
    have hsame : U.sameButNew ({ U with heap := s₂.heap, slotsUsed := s₂.slotsUsed } : State) L mc ms := by
      refine ⟨?_, q2, q3, q4, q5, q6⟩
      obtain ⟨t, ht, -⟩ := State.frames_cons hr
      show ({ U with heap := s₂.heap, slotsUsed := s₂.slotsUsed } : State) = { U.setFrames U.frames with heap := s₂.heap, slotsUsed := s₂.slotsUsed }
      rw [State.setFrames_self ht]
    subst hg
    refine Or.inr ⟨q, ⟨(({ U with heap := s₂.heap, slotsUsed := s₂.slotsUsed } : State).setVm s₂.vm), Ls ++ L, c0 + mc, s0 + ms⟩,
      ⟨X.admits, X.cas, X.clock, X.frames, X.room, X.hears, X.method, X.code, (X.here.setHeapUsed s₂.heap s₂.slotsUsed).setVm hW'.alike, X.tail, State.WarmedH.trans X.warmed hW', X.limits, X.bytes, X.same.trans (hsame.setVm s.vm)⟩,
      ⟨g, mk, s₂, L, E, ce, rfl, rfl, hx, hce, hcv, hcl, rfl, hL, rfl, rfl⟩, ?_⟩
    show Steps p.tables e below _ (((({ U with heap := s₂.heap, slotsUsed := s₂.slotsUsed } : State).setVm s₂.vm).setTop g).pushFrame (.throwing q))
    rw [← hs₂]
    exact hsteps
end
variable {p : Program} {l : Launch} {e : Env} {R : Room} {s : State} {m : MethodId} {args : Array Value} {below : List Frame} {meth : Method} {c : Code} {T : State} {H : Heap} {locs : List Loc} {cells slots : Nat}
theorem vx_callVX (X : Stand p l e R s m args below meth c T locs cells slots) (hexec : p.tables.exec = Jvm.exec) {own C : String} {index : Nat} {y : MethodName} {bytes : ByteArray} {maxL : Nat} {ret : Option FieldType} {hh : List (Nat × Nat × Nat × Nat)}
    (hown : s.vm.findClass own = some m.cls) (hlink : (Cond.methodLink own index y).before args s = true) (hinst : (Cond.instanceMethod y).before args s = true) (hsel : (Cond.selects C y y).before args s = true)
    (hcode : (Cond.codeWith y bytes maxL ret hh).before args s = true) (hy : y.cls ≠ "java/lang/invoke/MethodHandle" ∧ y.cls ≠ "java/lang/invoke/VarHandle")
    {W9 : Nat} {Pre : Pt → Array Value → Prop} {Post : Pt → Array Value → Option Value → Pt → Prop} {PostX : Pt → Array Value → Addr → Pt → Prop} (hK : vx_Back l R p e below s args y 3 W9 Pre Post PostX)
    {b : Addr} {cellB : Cell} (hcell : T.heap[b]? = some cellB) (hobj : cellB.vm.isStatics = false) (hcls : s.vm.findClass C = some cellB.cls)
    {g : JFrame} (hg : g.method = m) (hsize : g.locals.size = c.maxLocals) {argsL rest : List Value} (hlen : ∀ sig, parseMethodDescriptor y.desc = some sig → argsL.length = sig.parameters.length)
    (hstack : g.stack = argsL.reverse ++ .ref b :: rest) (hW : 2 * g.monitorRoom + (rest.map fun v => v.category).sum ≤ W9) (hdg : decode c.code g.pc = .ok (.invokevirtual index, 3))
    (hpre : ∀ vm₁, s.WarmedH vm₁ → Pre ⟨T.setVm vm₁, locs, cells, slots⟩ (Value.ref b :: argsL).toArray) :
    (∃ (v : Option Value) (vm₁ : Vm) (B : Pt), s.WarmedH vm₁ ∧ Stand p l e R s m args below meth c B.U B.locs B.cells B.slots ∧ Post ⟨T.setVm vm₁, locs, cells, slots⟩ (Value.ref b :: argsL).toArray v B ∧
      ∀ target, Steps p.tables e below (B.U.setTop { g with pc := g.pc + 3, stack := v.toList ++ rest }) target → Steps p.tables e below (T.setTop g) target) ∨
    (∃ (q : Addr) (vm₁ : Vm) (B : Pt), s.WarmedH vm₁ ∧ Stand p l e R s m args below meth c B.U B.locs B.cells B.slots ∧ PostX ⟨T.setVm vm₁, locs, cells, slots⟩ (Value.ref b :: argsL).toArray q B ∧
      Steps p.tables e below (T.setTop g) ((B.U.setTop { g with stack := rest }).pushFrame (.throwing q))) := by
  obtain ⟨mk, methM, hnamed, hmethM, hstM, habM⟩ := Cond.instanceMethod_spec hinst
  obtain ⟨m8, methM', cM, hn8, hmethM', -, -, -, -, -, -, hsigM⟩ := Cond.codeWith_spec hcode
  cases Option.some.inj (hn8.symm.trans hnamed)
  cases hmethM.symm.trans hmethM'
  obtain ⟨c2, r2, m2, q1, q2, q3, q4, kP, hkP, hkPi⟩ := Cond.selects_spec hsel
  cases hcls.symm.trans q1
  cases (State.methodFound?_of_named hnamed hy).symm.trans q2
  cases hnamed.symm.trans q3
  have hselP : selectMethod e.platform s.vm cellB.cls mk = .method mk := by rw [Launch.admits_selectMethod X.admits]; exact q4
  obtain ⟨vm₁, X₁, hstep₁⟩ := X.invokevirtual hexec hown hlink hnamed hmethM hstM hkP hkPi hy (a := b) (cell := cellB) hcell
    (fun z h => by rw [h] at hobj; cases hobj) hselP hmethM habM hkP hkPi (g := g) hg (argsL := argsL) (rest := rest) (hlen _ hsigM) hstack hdg
  rcases hK m meth c ⟨T.setVm vm₁, locs, cells, slots⟩ { g with stack := rest } (.invokevirtual index) mk (Value.ref b :: argsL).toArray X₁ hg hsize hdg hW (X₁.named hnamed) (hpre vm₁ X₁.warmed) with ⟨v, B, X', hpost, hsteps⟩ | ⟨q, B, X', hpost, hsteps⟩
  · exact Or.inl ⟨v, vm₁, B, X₁.warmed, X', hpost, fun target h => hstep₁ _ fun acts => by rw [doInvoke_state]; exact hsteps.trans h⟩
  · exact Or.inr ⟨q, vm₁, B, X₁.warmed, X', hpost, hstep₁ _ fun acts => by rw [doInvoke_state]; exact hsteps⟩
theorem vx_callSX (X : Stand p l e R s m args below meth c T locs cells slots) (hexec : p.tables.exec = Jvm.exec) {own : String} {index : Nat} {y : MethodName} {bytes : ByteArray} {maxL : Nat} {ret : Option FieldType} {hh : List (Nat × Nat × Nat × Nat)}
    (hown : s.vm.findClass own = some m.cls) (hlink : (Cond.methodLink own index y).before args s = true) (hstat : (Cond.static y).before args s = true) (hinit : (Cond.initialized y.cls).before args s = true)
    (hcode : (Cond.codeWith y bytes maxL ret hh).before args s = true) (hy : y.cls ≠ "java/lang/invoke/MethodHandle" ∧ y.cls ≠ "java/lang/invoke/VarHandle")
    {W9 : Nat} {Pre : Pt → Array Value → Prop} {Post : Pt → Array Value → Option Value → Pt → Prop} {PostX : Pt → Array Value → Addr → Pt → Prop} (hK : vx_Back l R p e below s args y 3 W9 Pre Post PostX)
    {g : JFrame} (hg : g.method = m) (hsize : g.locals.size = c.maxLocals) {argsL rest : List Value} (hlen : ∀ sig, parseMethodDescriptor y.desc = some sig → argsL.length = sig.parameters.length)
    (hstack : g.stack = argsL.reverse ++ rest) (hW : 2 * g.monitorRoom + (rest.map fun v => v.category).sum ≤ W9) (hdg : decode c.code g.pc = .ok (.invokestatic index, 3))
    (hpre : ∀ vm₁, s.WarmedH vm₁ → Pre ⟨T.setVm vm₁, locs, cells, slots⟩ argsL.toArray) :
    (∃ (v : Option Value) (vm₁ : Vm) (B : Pt), s.WarmedH vm₁ ∧ Stand p l e R s m args below meth c B.U B.locs B.cells B.slots ∧ Post ⟨T.setVm vm₁, locs, cells, slots⟩ argsL.toArray v B ∧
      ∀ target, Steps p.tables e below (B.U.setTop { g with pc := g.pc + 3, stack := v.toList ++ rest }) target → Steps p.tables e below (T.setTop g) target) ∨
    (∃ (q : Addr) (vm₁ : Vm) (B : Pt), s.WarmedH vm₁ ∧ Stand p l e R s m args below meth c B.U B.locs B.cells B.slots ∧ PostX ⟨T.setVm vm₁, locs, cells, slots⟩ argsL.toArray q B ∧
      Steps p.tables e below (T.setTop g) ((B.U.setTop { g with stack := rest }).pushFrame (.throwing q))) := by
  obtain ⟨mk, methM, cM, hnamed, hmethM, -, -, -, -, -, -, hsigM⟩ := Cond.codeWith_spec hcode
  have hstatic : methM.isStatic = true := Cond.static_spec hnamed hmethM hstat
  obtain ⟨kP, hkP, -⟩ := className_of_methodNamed hnamed
  have hinitP : kP.init = .initialized := Cond.initialized_spec (findClass_of_methodNamed hnamed) hkP hinit
  obtain ⟨vm₁, X₁, hstep₁⟩ := X.invokestatic hexec hown hlink hnamed hmethM hstatic hkP hinitP hy (g := g) hg (argsL := argsL) (rest := rest) (hlen _ hsigM) hstack hdg
  rcases hK m meth c ⟨T.setVm vm₁, locs, cells, slots⟩ { g with stack := rest } (.invokestatic index) mk argsL.toArray X₁ hg hsize hdg hW (X₁.named hnamed) (hpre vm₁ X₁.warmed) with ⟨v, B, X', hpost, hsteps⟩ | ⟨q, B, X', hpost, hsteps⟩
  · exact Or.inl ⟨v, vm₁, B, X₁.warmed, X', hpost, fun target h => hstep₁ _ fun acts => by rw [doInvoke_state]; exact hsteps.trans h⟩
  · exact Or.inr ⟨q, vm₁, B, X₁.warmed, X', hpost, hstep₁ _ fun acts => by rw [doInvoke_state]; exact hsteps⟩
theorem vx_callVW (X : Stand p l e R s m args below meth c T locs cells slots) (hexec : p.tables.exec = Jvm.exec) {own C : String} {index : Nat} {y : MethodName} {bytes : ByteArray} {maxL : Nat} {ret : Option FieldType} {hh : List (Nat × Nat × Nat × Nat)}
    (hown : s.vm.findClass own = some m.cls) (hlink : (Cond.methodLink own index y).before args s = true) (hinst : (Cond.instanceMethod y).before args s = true) (hsel : (Cond.selects C y y).before args s = true)
    (hcode : (Cond.codeWith y bytes maxL ret hh).before args s = true) (hy : y.cls ≠ "java/lang/invoke/MethodHandle" ∧ y.cls ≠ "java/lang/invoke/VarHandle")
    {W9 : Nat} {Pre : Pt → Array Value → Prop} {Post : Pt → Array Value → Option Value → Pt → Prop} (hK : Back l R p e below s args y 3 W9 Pre Post)
    {b : Addr} {cellB : Cell} (hcell : T.heap[b]? = some cellB) (hobj : cellB.vm.isStatics = false) (hcls : s.vm.findClass C = some cellB.cls)
    {g : JFrame} (hg : g.method = m) (hsize : g.locals.size = c.maxLocals) {argsL rest : List Value} (hlen : ∀ sig, parseMethodDescriptor y.desc = some sig → argsL.length = sig.parameters.length)
    (hstack : g.stack = argsL.reverse ++ .ref b :: rest) (hW : 2 * g.monitorRoom + (rest.map fun v => v.category).sum ≤ W9) (hdg : decode c.code g.pc = .ok (.invokevirtual index, 3))
    (hpre : ∀ vm₁, s.WarmedH vm₁ → Pre ⟨T.setVm vm₁, locs, cells, slots⟩ (Value.ref b :: argsL).toArray) :
    ∃ (v : Option Value) (vm₁ : Vm) (B : Pt), s.WarmedH vm₁ ∧ Stand p l e R s m args below meth c B.U B.locs B.cells B.slots ∧ Post ⟨T.setVm vm₁, locs, cells, slots⟩ (Value.ref b :: argsL).toArray v B ∧
      ∀ target, Steps p.tables e below (B.U.setTop { g with pc := g.pc + 3, stack := v.toList ++ rest }) target → Steps p.tables e below (T.setTop g) target := by
  obtain ⟨mk, methM, hnamed, hmethM, hstM, habM⟩ := Cond.instanceMethod_spec hinst
  obtain ⟨m8, methM', cM, hn8, hmethM', -, -, -, -, -, -, hsigM⟩ := Cond.codeWith_spec hcode
  cases Option.some.inj (hn8.symm.trans hnamed)
  cases hmethM.symm.trans hmethM'
  obtain ⟨c2, r2, m2, q1, q2, q3, q4, kP, hkP, hkPi⟩ := Cond.selects_spec hsel
  cases hcls.symm.trans q1
  cases (State.methodFound?_of_named hnamed hy).symm.trans q2
  cases hnamed.symm.trans q3
  have hselP : selectMethod e.platform s.vm cellB.cls mk = .method mk := by rw [Launch.admits_selectMethod X.admits]; exact q4
  obtain ⟨vm₁, X₁, hstep₁⟩ := X.invokevirtual hexec hown hlink hnamed hmethM hstM hkP hkPi hy (a := b) (cell := cellB) hcell
    (fun z h => by rw [h] at hobj; cases hobj) hselP hmethM habM hkP hkPi (g := g) hg (argsL := argsL) (rest := rest) (hlen _ hsigM) hstack hdg
  obtain ⟨v, B, X', hpost, hsteps⟩ := hK m meth c ⟨T.setVm vm₁, locs, cells, slots⟩ { g with stack := rest } (.invokevirtual index) mk (Value.ref b :: argsL).toArray X₁ hg hsize hdg hW (X₁.named hnamed) (hpre vm₁ X₁.warmed)
  exact ⟨v, vm₁, B, X₁.warmed, X', hpost, fun target h => hstep₁ _ fun acts => by rw [doInvoke_state]; exact hsteps.trans h⟩
abbrev vx_CVW (R : Room) (s : State) (args : Array Value) (own C : String) (index : Nat) (y : MethodName) (bytes : ByteArray) (maxL : Nat) (ret : Option FieldType) (hh : List (Nat × Nat × Nat × Nat)) (ws : List Cond) (rm : Room) (mc ms n : Nat) : Prop :=
  (rm.cells = mc ∧ rm.slots = ms ∧ rm.frames + 1 ≤ R.frames ∧ 8 + (maxL + 11) + rm.locals ≤ R.locals ∧ (∀ w ∈ ws, ∀ (a' : Array Value) (U : State), s.WarmedH U.vm → w.before a' U = true) ∧ Cond.codeWith y bytes maxL ret hh ∈ ws) ∧
  (Cond.codeWith y bytes maxL ret hh).before args s = true ∧ (Cond.initialized y.cls).before args s = true ∧ (y.cls ≠ "java/lang/invoke/MethodHandle" ∧ y.cls ≠ "java/lang/invoke/VarHandle") ∧
  (∀ sig, parseMethodDescriptor y.desc = some sig → n = sig.parameters.length) ∧ (Cond.methodLink own index y).before args s = true ∧ (Cond.instanceMethod y).before args s = true ∧ (Cond.selects C y y).before args s = true
theorem vx_cwVW {own C : String} {index maxL mc ms : Nat} {y : MethodName} {bytes : ByteArray} {ret : Option FieldType} {hh : List (Nat × Nat × Nat × Nat)} {Ts ws ws' : List Cond} {rm : Room} (n : Nat) (ht : ∀ w ∈ Ts, w.before args s = true) (hT : GoodIn Ts (wsV own index C y ws)) (hw : ws = Cond.codeWith y bytes maxL ret hh :: ws') (hrc : rm.cells = mc) (hrs : rm.slots = ms)
    (hd : y.cls = C ∧ y.cls ≠ "java/lang/invoke/MethodHandle" ∧ y.cls ≠ "java/lang/invoke/VarHandle" ∧ (parseMethodDescriptor y.desc).map (fun d => d.parameters.length) = some n) (hR : rm.frames + 1 ≤ R.frames ∧ 8 + (maxL + 11) + rm.locals ≤ R.locals) :
    vx_CVW R s args own C index y bytes maxL ret hh ws rm mc ms n := by
  obtain ⟨hC, hd⟩ := hd
  subst hC
  have ok : ∀ w ∈ wsV own index y.cls y ws, w.before args s = true := fun w h => ht w (hT w h).1
  have hG : GoodIn Ts ws := fun w h => hT w (by unfold wsV; exact List.mem_append_right _ h)
  have hc : Cond.codeWith y bytes maxL ret hh ∈ ws := by rw [hw]; exact List.mem_cons_self
  refine ⟨⟨hrc, hrs, hR.1, hR.2, pay_in ht hG, hc⟩, ht _ (hG _ hc).1, ok _ (by simp [wsV]), ⟨hd.1, hd.2.1⟩, fun sig h => ?_, ok _ (by simp [wsV]), ok _ (by simp [wsV]), ok _ (by simp [wsV])⟩
  have h2 := hd.2.2
  rw [h] at h2
  exact (Option.some.inj h2).symm
theorem vx_runVW {y : MethodName} {bytes cc : ByteArray} {maxL nL mc ms n index : Nat} {ret : Option FieldType} {hh : List (Nat × Nat × Nat × Nat)} {ws : List Cond} {rm : Room} {Pc : Array Value → State → Prop} {Qc : Array Value → State → Outcome → State → Prop} {free : Addr → Prop} {Ts : List Cond} {own C : String} {b : Addr} {As rest : List Value} {g : JFrame}
    (S : CallFix p m c cc nL s args Ts own) (hM : Met l y ws rm Pc Qc mc ms free) (cw : vx_CVW R s args own C index y bytes maxL ret hh ws rm mc ms n) (hp : PreV s H C b Pc As)
    (hg : g.method = m) (hn : As.length = n) (hsize : g.locals.size = nL) (hstack : g.stack = As.reverse ++ .ref b :: rest) (hW : 2 * g.monitorRoom + (rest.map fun v => v.category).sum ≤ 8) (hdg : decode cc g.pc = .ok (.invokevirtual index, 3)) (hf : cells + mc ≤ R.cells ∧ slots + ms ≤ R.slots) :
    va_Run p l e R s m args below meth c H locs cells slots mc ms g rest (Qc (Value.ref b :: As).toArray) free := by
  obtain ⟨⟨hrc, hrs, hfr, hlo, hws, hcw⟩, hcode, hini, hy, hlen, hl, hin, hse⟩ := cw
  have hK : Back l R p e below s args y 3 8 (PreOf R mc ms Pc) (PostOf Qc mc ms free) := va_backW (hh := hh) (bytes := bytes) (maxL := maxL) (ret := ret) hM hp.1 hrc hrs hfr hlo hws hcw (fun a' U hW => word_at hW (Or.inl (by first | rfl | simp [Cond.onTables, Cond.keeps, Cond.steady])) hini)
  obtain ⟨hx, hb, hml, ho, -⟩ := S
  obtain ⟨-, ⟨cellB, hcB, hoB, hclB⟩, hPc⟩ := hp
  intro T hT X
  obtain ⟨v, vm₁, ⟨U', l2, c2, s2⟩, hW₁, X', ⟨g', mk, t, L, e1, e2, hq, h1, hL, h2, h3⟩, st⟩ := vx_callVW X hx (C := C) (hh := hh) (bytes := bytes) (maxL := maxL) (ret := ret) ho hl hin hse hcode hy hK (by rw [hT]; exact hcB) hoB hclB hg (hsize.trans hml.symm) (argsL := As) (rest := rest) (fun sig h => hn.trans (hlen sig h)) hstack hW (by rw [hb]; exact hdg)
    (fun vm₁ hW₁ => ⟨hf.1, hf.2, hPc (T.setVm vm₁) hT hW₁⟩)
  dsimp only [Pt.U, Pt.locs, Pt.cells, Pt.slots] at X' e1 e2 h1 h2 h3 st
  subst h1; subst h2; subst h3
  exact ⟨v, (T.setVm vm₁).calling g' mk (Value.ref b :: As).toArray, t, U', L, hT, X', hL, e1, e2, hq, st⟩
section
variable {y : MethodName} {bytes cc : ByteArray} {maxL nL mc ms n index : Nat} {ret : Option FieldType} {ws : List Cond} {rm : Room} {Pc : Array Value → State → Prop} {Qc : Array Value → State → Outcome → State → Prop} {XC : String → State → State → Prop} {free : Addr → Prop} {Ts : List Cond} {own C : String} {b : Addr} {As rest : List Value} {g : JFrame}
theorem vx_runVX {hh : List (Nat × Nat × Nat × Nat)} (S : CallFix p m c cc nL s args Ts own) (hM : vx_Met l y ws rm Pc Qc XC mc ms free) (cw : vx_CVW R s args own C index y bytes maxL ret hh ws rm mc ms n) (hp : PreV s H C b Pc As)
    (hg : g.method = m) (hn : As.length = n) (hsize : g.locals.size = nL) (hstack : g.stack = As.reverse ++ .ref b :: rest) (hW : 2 * g.monitorRoom + (rest.map fun v => v.category).sum ≤ 8) (hdg : decode cc g.pc = .ok (.invokevirtual index, 3)) (hf : cells + mc ≤ R.cells ∧ slots + ms ≤ R.slots) :
    vx_Run p l e R s m args below meth c H locs cells slots mc ms g rest (Qc (Value.ref b :: As).toArray) XC free := by
  obtain ⟨⟨hrc, hrs, hfr, hlo, hws, hcw⟩, hcode, hini, hy, hlen, hl, hin, hse⟩ := cw
  have hK : vx_Back l R p e below s args y 3 8 (PreOf R mc ms Pc) (PostOf Qc mc ms free) (vx_Post XC mc ms free) := vx_backW (hh := hh) (bytes := bytes) (maxL := maxL) (ret := ret) hM hp.1 hrc hrs hfr hlo hws hcw (fun a' U hW => word_at hW (Or.inl (by first | rfl | simp [Cond.onTables, Cond.keeps, Cond.steady])) hini)
  obtain ⟨hx, hb, hml, ho, -⟩ := S
  obtain ⟨-, ⟨cellB, hcB, hoB, hclB⟩, hPc⟩ := hp
  intro T hT X
  rcases vx_callVX X hx (C := C) (hh := hh) (bytes := bytes) (maxL := maxL) (ret := ret) ho hl hin hse hcode hy hK (by rw [hT]; exact hcB) hoB hclB hg (hsize.trans hml.symm) (argsL := As) (rest := rest) (fun sig h => hn.trans (hlen sig h)) hstack hW (by rw [hb]; exact hdg)
    (fun vm₁ hW₁ => ⟨hf.1, hf.2, hPc (T.setVm vm₁) hT hW₁⟩) with ⟨v, vm₁, ⟨U', l2, c2, s2⟩, hW₁, X', ⟨g', mk, t, L, e1, e2, hq, h1, hL, h2, h3⟩, st⟩ | ⟨q, vm₁, ⟨U', l2, c2, s2⟩, hW₁, X', ⟨g', mk, t, L, E, ce, e1, e2, hq, hce, hcv, hcl, h1, hL, h2, h3⟩, st⟩
  · dsimp only [Pt.U, Pt.locs, Pt.cells, Pt.slots] at X' e1 e2 h1 h2 h3 st
    subst h1; subst h2; subst h3
    exact Or.inl ⟨v, (T.setVm vm₁).calling g' mk (Value.ref b :: As).toArray, t, U', L, hT, X', hL, e1, e2, hq, st⟩
  · dsimp only [Pt.U, Pt.locs, Pt.cells, Pt.slots] at X' e1 e2 h1 h2 h3 st hcl
    subst h1; subst h2; subst h3
    exact Or.inr ⟨q, (T.setVm vm₁).calling g' mk (Value.ref b :: As).toArray, t, U', L, E, ce, hT, X', hL, e1, e2, hq, hce, hcv, vx_cls hW₁ hcl, st⟩
theorem vx_runSX {hh : List (Nat × Nat × Nat × Nat)} (S : CallFix p m c cc nL s args Ts own) (hM : vx_Met l y ws rm Pc Qc XC mc ms free) (cw : vx_CSW R s args own index y bytes maxL ret hh ws rm mc ms n) (hp : PreS s H Pc As)
    (hg : g.method = m) (hn : As.length = n) (hsize : g.locals.size = nL) (hstack : g.stack = As.reverse ++ rest) (hW : 2 * g.monitorRoom + (rest.map fun v => v.category).sum ≤ 8) (hdg : decode cc g.pc = .ok (.invokestatic index, 3)) (hf : cells + mc ≤ R.cells ∧ slots + ms ≤ R.slots) :
    vx_Run p l e R s m args below meth c H locs cells slots mc ms g rest (Qc As.toArray) XC free := by
  obtain ⟨⟨hrc, hrs, hfr, hlo, hws, hcw⟩, hcode, hini, hy, hlen, hl, hstt⟩ := cw
  have hK : vx_Back l R p e below s args y 3 8 (PreOf R mc ms Pc) (PostOf Qc mc ms free) (vx_Post XC mc ms free) := vx_backW (hh := hh) (bytes := bytes) (maxL := maxL) (ret := ret) hM hp.1 hrc hrs hfr hlo hws hcw (fun a' U hW => word_at hW (Or.inl (by first | rfl | simp [Cond.onTables, Cond.keeps, Cond.steady])) hini)
  obtain ⟨hx, hb, hml, ho, -⟩ := S
  intro T hT X
  rcases vx_callSX X hx (hh := hh) (bytes := bytes) (maxL := maxL) (ret := ret) ho hl hstt hini hcode hy hK hg (hsize.trans hml.symm) (argsL := As) (rest := rest) (fun sig h => hn.trans (hlen sig h)) hstack hW (by rw [hb]; exact hdg)
    (fun vm₁ hW₁ => ⟨hf.1, hf.2, hp.2 (T.setVm vm₁) hT hW₁⟩) with ⟨v, vm₁, ⟨U', l2, c2, s2⟩, hW₁, X', ⟨g', mk, t, L, e1, e2, hq, h1, hL, h2, h3⟩, st⟩ | ⟨q, vm₁, ⟨U', l2, c2, s2⟩, hW₁, X', ⟨g', mk, t, L, E, ce, e1, e2, hq, hce, hcv, hcl, h1, hL, h2, h3⟩, st⟩
  · dsimp only [Pt.U, Pt.locs, Pt.cells, Pt.slots] at X' e1 e2 h1 h2 h3 st
    subst h1; subst h2; subst h3
    exact Or.inl ⟨v, (T.setVm vm₁).calling g' mk As.toArray, t, U', L, hT, X', hL, e1, e2, hq, st⟩
  · dsimp only [Pt.U, Pt.locs, Pt.cells, Pt.slots] at X' e1 e2 h1 h2 h3 st hcl
    subst h1; subst h2; subst h3
    exact Or.inr ⟨q, (T.setVm vm₁).calling g' mk As.toArray, t, U', L, E, ce, hT, X', hL, e1, e2, hq, hce, hcv, vx_cls hW₁ hcl, st⟩
end
end VXH
theorem vx_ofWH {l : Launch} {y : MethodName} {ws ws' : List Cond} {rm : Room} {Pc : Array Value → State → Prop} {Qc : Array Value → State → Outcome → State → Prop} {XC : String → State → State → Prop} {mc ms : Nat} {free : Addr → Prop} {cc : ByteArray} {maxL : Nat} {ret : Option FieldType} {hh : List (Nat × Nat × Nat × Nat)}
    (hy : plainName y.cls = true) (hw : ws = Cond.codeWith y cc maxL ret hh :: ws')
    (body : ∀ p e s m args below meth c s₁, BodyLoose p l y (headSpec ws rm) cc maxL ret e s m args below meth c s₁ → c.maxLocals = maxL → Pc args s →
      W p l e (headSpec ws rm).room s m args below meth c s.heap [] 0 0 (vx_MQ below Qc XC args s mc ms free) (entryFrame m args maxL)) : vx_Met l y ws rm Pc Qc XC mc ms free := by
  refine MetFree.of_bodyS (code := cc) (maxLocals := maxL) (ret := ret) hy ?_ ?_
  · intro args s m h hn
    obtain ⟨m9, meth, c, hn9, h1, h2, h3, h4, -, h5, h6, -⟩ := Cond.codeWith_spec (atoms_spec (ws := ws) h _ (by rw [hw]; exact List.mem_cons_self))
    cases hn.symm.trans hn9
    exact ⟨meth, c, h1, h2, h3, h4, h5, h6⟩
  · intro p e s m args below meth c s₁ B hml hP _
    have hh0 : s₁.heap = s.heap := by rw [B.state]; rfl
    obtain ⟨t, a1, o, b1, b2, b3⟩ := body p e s m args below meth c s₁ B hml hP s₁ hh0 (Stand.of_body B)
    exact ⟨t, o, a1, b1, b2, b3⟩
/-! ===== END ===== -/

/-! ===== BEGIN printed: names, fields, word lists, decode rows ===== -/
def RX0 : String := "BlueBag$Acts"
def TX0 : u_T := fun k => match k with
  | 0 => ("BlueBag$Acts", "rows", "[I", true)
  | _ => ("BlueBag$Acts", "kept", "I", false)
def tyX0 : Nat → FieldType := fun k => match k with
  | 0 => .array .int
  | _ => .int
abbrev wsX00 : List Cond := u_ws RX0 TX0 2
theorem nmX0 : ∀ a, a < 2 → ∀ b, b < 2 → a ≠ b → (TX0 a).2.1 ≠ (TX0 b).2.1 := by decide +kernel
theorem tyX0_ok : ∀ k, k < 2 → parseFieldDescriptor (TX0 k).2.2.1 = some (tyX0 k) := by decide +kernel
abbrev cX0_init : ByteArray := prog_2_method_1_code
def yX0_init : MethodName := ⟨RX0, "<init>", "()V"⟩
abbrev cX0_clear : ByteArray := prog_2_method_2_code
def yX0_clear : MethodName := ⟨RX0, "clear", "()V"⟩
abbrev cX0_copyFrom : ByteArray := prog_2_method_3_code
def yX0_copyFrom : MethodName := ⟨RX0, "copyFrom", "(LBlueBag$Acts;)V"⟩
abbrev cX0_keep : ByteArray := prog_2_method_4_code
def yX0_keep : MethodName := ⟨RX0, "keep", "(LBlueBag$Sky;)V"⟩
abbrev cX0_takeBack : ByteArray := prog_2_method_5_code
def yX0_takeBack : MethodName := ⟨RX0, "takeBack", "(LBlueBag$Sky;)Z"⟩
def RX1 : String := "BlueBag$Coast"
def TX1 : u_T := fun k => match k with
  | 0 => ("BlueBag$Coast", "wide", "I", false)
  | 1 => ("BlueBag$Coast", "high", "I", false)
  | 2 => ("BlueBag$Coast", "rinse", "I", false)
  | 3 => ("BlueBag$Coast", "bound", "I", false)
  | 4 => ("BlueBag$Coast", "girls", "I", false)
  | 5 => ("BlueBag$Coast", "olds", "I", false)
  | 6 => ("BlueBag$Coast", "beside", "[I", true)
  | 7 => ("BlueBag$Coast", "dyes", "LBlueBag$Rule;", true)
  | _ => ("BlueBag$Coast", "fades", "LBlueBag$Rule;", true)
def tyX1 : Nat → FieldType := fun k => match k with
  | 0 => .int
  | 1 => .int
  | 2 => .int
  | 3 => .int
  | 4 => .int
  | 5 => .int
  | 6 => .array .int
  | 7 => .object "BlueBag$Rule"
  | _ => .object "BlueBag$Rule"
abbrev wsX10 : List Cond := u_ws RX1 TX1 9
theorem nmX1 : ∀ a, a < 9 → ∀ b, b < 9 → a ≠ b → (TX1 a).2.1 ≠ (TX1 b).2.1 := by decide +kernel
theorem tyX1_ok : ∀ k, k < 9 → parseFieldDescriptor (TX1 k).2.2.1 = some (tyX1 k) := by decide +kernel
abbrev cX1_init : ByteArray := prog_3_method_1_code
def yX1_init : MethodName := ⟨RX1, "<init>", "()V"⟩
abbrev cX1_begin : ByteArray := prog_3_method_2_code
def yX1_begin : MethodName := ⟨RX1, "begin", "()V"⟩
abbrev cX1_shape : ByteArray := prog_3_method_3_code
def yX1_shape : MethodName := ⟨RX1, "shape", "(II)V"⟩
abbrev cX1_bitsBeside : ByteArray := prog_3_method_4_code
def yX1_bitsBeside : MethodName := ⟨RX1, "bitsBeside", "(I)I"⟩
abbrev cX1_copyFrom : ByteArray := prog_3_method_5_code
def yX1_copyFrom : MethodName := ⟨RX1, "copyFrom", "(LBlueBag$Coast;)V"⟩
abbrev cX1_cells : ByteArray := prog_3_method_6_code
def yX1_cells : MethodName := ⟨RX1, "cells", "()I"⟩
abbrev cX1_rowOf : ByteArray := prog_3_method_7_code
def yX1_rowOf : MethodName := ⟨RX1, "rowOf", "(I)I"⟩
abbrev cX1_columnOf : ByteArray := prog_3_method_8_code
def yX1_columnOf : MethodName := ⟨RX1, "columnOf", "(I)I"⟩
abbrev cX1_isOld : ByteArray := prog_3_method_9_code
def yX1_isOld : MethodName := ⟨RX1, "isOld", "(I)Z"⟩
abbrev cX1_besideBits : ByteArray := prog_3_method_10_code
def yX1_besideBits : MethodName := ⟨RX1, "besideBits", "(I)I"⟩
abbrev cX1_stepsBetween : ByteArray := prog_3_method_11_code
def yX1_stepsBetween : MethodName := ⟨RX1, "stepsBetween", "(II)I"⟩
def RX2 : String := "BlueBag$CoastReader"
def TX2 : u_T := fun k => match k with
  | 0 => ("BlueBag$CoastReader", "tokens", "LBlueBag$Tokens;", true)
  | 1 => ("BlueBag$CoastReader", "rules", "LBlueBag$RuleReader;", true)
  | 2 => ("BlueBag$CoastReader", "draft", "LBlueBag$Coast;", true)
  | 3 => ("BlueBag$CoastReader", "draftSky", "LBlueBag$Sky;", true)
  | 4 => ("BlueBag$CoastReader", "told", "I", false)
  | 5 => ("BlueBag$CoastReader", "blues", "I", false)
  | _ => ("BlueBag$CoastReader", "isCellTold", "Z", false)
def tyX2 : Nat → FieldType := fun k => match k with
  | 0 => .object "BlueBag$Tokens"
  | 1 => .object "BlueBag$RuleReader"
  | 2 => .object "BlueBag$Coast"
  | 3 => .object "BlueBag$Sky"
  | 4 => .int
  | 5 => .int
  | _ => .boolean
abbrev wsX20 : List Cond := u_ws RX2 TX2 7
theorem nmX2 : ∀ a, a < 7 → ∀ b, b < 7 → a ≠ b → (TX2 a).2.1 ≠ (TX2 b).2.1 := by decide +kernel
theorem tyX2_ok : ∀ k, k < 7 → parseFieldDescriptor (TX2 k).2.2.1 = some (tyX2 k) := by decide +kernel
abbrev cX2_init : ByteArray := prog_4_method_1_code
def yX2_init : MethodName := ⟨RX2, "<init>", "(LBlueBag$Tape;)V"⟩
abbrev cX2_read : ByteArray := prog_4_method_2_code
def yX2_read : MethodName := ⟨RX2, "read", "(I)I"⟩
abbrev cX2_faultPlace : ByteArray := prog_4_method_3_code
def yX2_faultPlace : MethodName := ⟨RX2, "faultPlace", "()I"⟩
abbrev cX2_readLine : ByteArray := prog_4_method_4_code
def yX2_readLine : MethodName := ⟨RX2, "readLine", "()Z"⟩
abbrev cX2_readSky : ByteArray := prog_4_method_5_code
def yX2_readSky : MethodName := ⟨RX2, "readSky", "()Z"⟩
abbrev cX2_readBlue : ByteArray := prog_4_method_6_code
def yX2_readBlue : MethodName := ⟨RX2, "readBlue", "()Z"⟩
abbrev cX2_readGirl : ByteArray := prog_4_method_7_code
def yX2_readGirl : MethodName := ⟨RX2, "readGirl", "(Z)Z"⟩
abbrev cX2_readPegs : ByteArray := prog_4_method_8_code
def yX2_readPegs : MethodName := ⟨RX2, "readPegs", "()Z"⟩
abbrev cX2_readKnobs : ByteArray := prog_4_method_9_code
def yX2_readKnobs : MethodName := ⟨RX2, "readKnobs", "()Z"⟩
abbrev cX2_readRinse : ByteArray := prog_4_method_10_code
def yX2_readRinse : MethodName := ⟨RX2, "readRinse", "()Z"⟩
abbrev cX2_readBound : ByteArray := prog_4_method_11_code
def yX2_readBound : MethodName := ⟨RX2, "readBound", "()Z"⟩
abbrev cX2_readRule : ByteArray := prog_4_method_12_code
def yX2_readRule : MethodName := ⟨RX2, "readRule", "(ILBlueBag$Rule;)Z"⟩
abbrev cX2_passesOnce : ByteArray := prog_4_method_13_code
def yX2_passesOnce : MethodName := ⟨RX2, "passesOnce", "(I)Z"⟩
abbrev cX2_readNumber : ByteArray := prog_4_method_14_code
def yX2_readNumber : MethodName := ⟨RX2, "readNumber", "(II)I"⟩
abbrev cX2_readCell : ByteArray := prog_4_method_15_code
def yX2_readCell : MethodName := ⟨RX2, "readCell", "(I)I"⟩
abbrev cX2_refuseNumber : ByteArray := prog_4_method_16_code
def yX2_refuseNumber : MethodName := ⟨RX2, "refuseNumber", "(I)I"⟩
def RX3 : String := "BlueBag$Dice"
def TX3 : u_T := fun k => match k with
  | _ => ("BlueBag$Dice", "seed", "I", false)
def tyX3 : Nat → FieldType := fun k => match k with
  | _ => .int
abbrev wsX30 : List Cond := u_ws RX3 TX3 1
theorem nmX3 : ∀ a, a < 1 → ∀ b, b < 1 → a ≠ b → (TX3 a).2.1 ≠ (TX3 b).2.1 := by decide +kernel
theorem tyX3_ok : ∀ k, k < 1 → parseFieldDescriptor (TX3 k).2.2.1 = some (tyX3 k) := by decide +kernel
abbrev cX3_init : ByteArray := prog_5_method_1_code
def yX3_init : MethodName := ⟨RX3, "<init>", "()V"⟩
abbrev cX3_draw : ByteArray := prog_5_method_2_code
def yX3_draw : MethodName := ⟨RX3, "draw", "(I)I"⟩
def RX4 : String := "BlueBag$Memory"
def TX4 : u_T := fun k => match k with
  | 0 => ("BlueBag$Memory", "sky", "LBlueBag$Sky;", true)
  | 1 => ("BlueBag$Memory", "acts", "LBlueBag$Acts;", true)
  | 2 => ("BlueBag$Memory", "seenCells", "[I", true)
  | 3 => ("BlueBag$Memory", "seenDays", "[I", true)
  | 4 => ("BlueBag$Memory", "seenBlues", "[I", true)
  | 5 => ("BlueBag$Memory", "status", "[I", true)
  | _ => ("BlueBag$Memory", "seen", "I", false)
def tyX4 : Nat → FieldType := fun k => match k with
  | 0 => .object "BlueBag$Sky"
  | 1 => .object "BlueBag$Acts"
  | 2 => .array .int
  | 3 => .array .int
  | 4 => .array .int
  | 5 => .array .int
  | _ => .int
abbrev wsX40 : List Cond := u_ws RX4 TX4 7
theorem nmX4 : ∀ a, a < 7 → ∀ b, b < 7 → a ≠ b → (TX4 a).2.1 ≠ (TX4 b).2.1 := by decide +kernel
theorem tyX4_ok : ∀ k, k < 7 → parseFieldDescriptor (TX4 k).2.2.1 = some (tyX4 k) := by decide +kernel
abbrev cX4_init : ByteArray := prog_6_method_1_code
def yX4_init : MethodName := ⟨RX4, "<init>", "(LBlueBag$Coast;)V"⟩
abbrev cX4_begin : ByteArray := prog_6_method_2_code
def yX4_begin : MethodName := ⟨RX4, "begin", "(LBlueBag$Sky;)V"⟩
abbrev cX4_copyFrom : ByteArray := prog_6_method_3_code
def yX4_copyFrom : MethodName := ⟨RX4, "copyFrom", "(LBlueBag$Memory;)V"⟩
abbrev cX4_keepAct : ByteArray := prog_6_method_4_code
def yX4_keepAct : MethodName := ⟨RX4, "keepAct", "()V"⟩
abbrev cX4_refuse : ByteArray := prog_6_method_5_code
def yX4_refuse : MethodName := ⟨RX4, "refuse", "(I)V"⟩
abbrev cX4_refused : ByteArray := prog_6_method_6_code
def yX4_refused : MethodName := ⟨RX4, "refused", "(I)I"⟩
abbrev cX4_addSeen : ByteArray := prog_6_method_7_code
def yX4_addSeen : MethodName := ⟨RX4, "addSeen", "(III)Z"⟩
abbrev cX4_lastSeenDay : ByteArray := prog_6_method_8_code
def yX4_lastSeenDay : MethodName := ⟨RX4, "lastSeenDay", "()I"⟩
abbrev cX4_fitsSeen : ByteArray := prog_6_method_9_code
def yX4_fitsSeen : MethodName := ⟨RX4, "fitsSeen", "(LBlueBag$Sky;I)Z"⟩
def RX5 : String := "BlueBag$Rule"
def TX5 : u_T := fun k => match k with
  | 0 => ("BlueBag$Rule", "code", "[I", true)
  | 1 => ("BlueBag$Rule", "stack", "[I", true)
  | _ => ("BlueBag$Rule", "length", "I", false)
def tyX5 : Nat → FieldType := fun k => match k with
  | 0 => .array .int
  | 1 => .array .int
  | _ => .int
abbrev wsX50 : List Cond := u_ws RX5 TX5 3
theorem nmX5 : ∀ a, a < 3 → ∀ b, b < 3 → a ≠ b → (TX5 a).2.1 ≠ (TX5 b).2.1 := by decide +kernel
theorem tyX5_ok : ∀ k, k < 3 → parseFieldDescriptor (TX5 k).2.2.1 = some (tyX5 k) := by decide +kernel
abbrev cX5_init : ByteArray := prog_7_method_1_code
def yX5_init : MethodName := ⟨RX5, "<init>", "()V"⟩
abbrev cX5_clear : ByteArray := prog_7_method_2_code
def yX5_clear : MethodName := ⟨RX5, "clear", "()V"⟩
abbrev cX5_isTold : ByteArray := prog_7_method_3_code
def yX5_isTold : MethodName := ⟨RX5, "isTold", "()Z"⟩
abbrev cX5_put : ByteArray := prog_7_method_4_code
def yX5_put : MethodName := ⟨RX5, "put", "(I)V"⟩
abbrev cX5_putValue : ByteArray := prog_7_method_5_code
def yX5_putValue : MethodName := ⟨RX5, "putValue", "(I)V"⟩
abbrev cX5_copyFrom : ByteArray := prog_7_method_6_code
def yX5_copyFrom : MethodName := ⟨RX5, "copyFrom", "(LBlueBag$Rule;)V"⟩
abbrev cX5_worth : ByteArray := prog_7_method_7_code
def yX5_worth : MethodName := ⟨RX5, "worth", "([I)I"⟩
abbrev cX5_joined : ByteArray := prog_7_method_8_code
def yX5_joined : MethodName := ⟨RX5, "joined", "(III)I"⟩
def RX6 : String := "BlueBag$RuleReader"
def TX6 : u_T := fun k => match k with
  | 0 => ("BlueBag$RuleReader", "tokens", "LBlueBag$Tokens;", true)
  | 1 => ("BlueBag$RuleReader", "rule", "LBlueBag$Rule;", false)
  | _ => ("BlueBag$RuleReader", "isOfDyes", "Z", false)
def tyX6 : Nat → FieldType := fun k => match k with
  | 0 => .object "BlueBag$Tokens"
  | 1 => .object "BlueBag$Rule"
  | _ => .boolean
abbrev wsX60 : List Cond := u_ws RX6 TX6 3
theorem nmX6 : ∀ a, a < 3 → ∀ b, b < 3 → a ≠ b → (TX6 a).2.1 ≠ (TX6 b).2.1 := by decide +kernel
theorem tyX6_ok : ∀ k, k < 3 → parseFieldDescriptor (TX6 k).2.2.1 = some (tyX6 k) := by decide +kernel
abbrev cX6_init : ByteArray := prog_8_method_1_code
def yX6_init : MethodName := ⟨RX6, "<init>", "(LBlueBag$Tokens;LBlueBag$Rule;)V"⟩
abbrev cX6_begin : ByteArray := prog_8_method_2_code
def yX6_begin : MethodName := ⟨RX6, "begin", "(LBlueBag$Rule;Z)V"⟩
abbrev cX6_readExpr : ByteArray := prog_8_method_3_code
def yX6_readExpr : MethodName := ⟨RX6, "readExpr", "(I)Z"⟩
abbrev cX6_readAnd : ByteArray := prog_8_method_4_code
def yX6_readAnd : MethodName := ⟨RX6, "readAnd", "(I)Z"⟩
abbrev cX6_readNot : ByteArray := prog_8_method_5_code
def yX6_readNot : MethodName := ⟨RX6, "readNot", "(I)Z"⟩
abbrev cX6_readTest : ByteArray := prog_8_method_6_code
def yX6_readTest : MethodName := ⟨RX6, "readTest", "(I)Z"⟩
abbrev cX6_readSum : ByteArray := prog_8_method_7_code
def yX6_readSum : MethodName := ⟨RX6, "readSum", "(I)Z"⟩
abbrev cX6_readProduct : ByteArray := prog_8_method_8_code
def yX6_readProduct : MethodName := ⟨RX6, "readProduct", "(I)Z"⟩
abbrev cX6_readPart : ByteArray := prog_8_method_9_code
def yX6_readPart : MethodName := ⟨RX6, "readPart", "(I)Z"⟩
abbrev cX6_valueHere : ByteArray := prog_8_method_10_code
def yX6_valueHere : MethodName := ⟨RX6, "valueHere", "()I"⟩
def RX7 : String := "BlueBag$Sending"
def TX7 : u_T := fun k => match k with
  | 0 => ("BlueBag$Sending", "goals", "[I", true)
  | 1 => ("BlueBag$Sending", "row", "[I", true)
  | 2 => ("BlueBag$Sending", "bestRow", "[I", true)
  | 3 => ("BlueBag$Sending", "sky", "LBlueBag$Sky;", true)
  | 4 => ("BlueBag$Sending", "many", "I", false)
  | _ => ("BlueBag$Sending", "least", "I", false)
def tyX7 : Nat → FieldType := fun k => match k with
  | 0 => .array .int
  | 1 => .array .int
  | 2 => .array .int
  | 3 => .object "BlueBag$Sky"
  | 4 => .int
  | _ => .int
abbrev wsX70 : List Cond := u_ws RX7 TX7 6
theorem nmX7 : ∀ a, a < 6 → ∀ b, b < 6 → a ≠ b → (TX7 a).2.1 ≠ (TX7 b).2.1 := by decide +kernel
theorem tyX7_ok : ∀ k, k < 6 → parseFieldDescriptor (TX7 k).2.2.1 = some (tyX7 k) := by decide +kernel
abbrev cX7_init : ByteArray := prog_9_method_1_code
def yX7_init : MethodName := ⟨RX7, "<init>", "(LBlueBag$Sky;)V"⟩
abbrev cX7_find : ByteArray := prog_9_method_2_code
def yX7_find : MethodName := ⟨RX7, "find", "(I)Z"⟩
abbrev cX7_girlFor : ByteArray := prog_9_method_3_code
def yX7_girlFor : MethodName := ⟨RX7, "girlFor", "(I)I"⟩
abbrev cX7_fill : ByteArray := prog_9_method_4_code
def yX7_fill : MethodName := ⟨RX7, "fill", "(III)V"⟩
def RX8 : String := "BlueBag$Sky"
def TX8 : u_T := fun k => match k with
  | 0 => ("BlueBag$Sky", "coast", "LBlueBag$Coast;", true)
  | 1 => ("BlueBag$Sky", "blue", "[I", true)
  | 2 => ("BlueBag$Sky", "morning", "[I", true)
  | 3 => ("BlueBag$Sky", "less", "[I", true)
  | 4 => ("BlueBag$Sky", "spot", "[I", true)
  | 5 => ("BlueBag$Sky", "skill", "[I", true)
  | 6 => ("BlueBag$Sky", "values", "[I", true)
  | 7 => ("BlueBag$Sky", "pegs", "I", false)
  | 8 => ("BlueBag$Sky", "resting", "I", false)
  | 9 => ("BlueBag$Sky", "knobs", "I", false)
  | 10 => ("BlueBag$Sky", "martins", "I", false)
  | 11 => ("BlueBag$Sky", "day", "I", false)
  | _ => ("BlueBag$Sky", "overdone", "I", false)
def tyX8 : Nat → FieldType := fun k => match k with
  | 0 => .object "BlueBag$Coast"
  | 1 => .array .int
  | 2 => .array .int
  | 3 => .array .int
  | 4 => .array .int
  | 5 => .array .int
  | 6 => .array .int
  | 7 => .int
  | 8 => .int
  | 9 => .int
  | 10 => .int
  | 11 => .int
  | _ => .int
abbrev wsX80 : List Cond := u_ws RX8 TX8 13
theorem nmX8 : ∀ a, a < 13 → ∀ b, b < 13 → a ≠ b → (TX8 a).2.1 ≠ (TX8 b).2.1 := by decide +kernel
theorem tyX8_ok : ∀ k, k < 13 → parseFieldDescriptor (TX8 k).2.2.1 = some (tyX8 k) := by decide +kernel
abbrev cX8_init : ByteArray := prog_10_method_1_code
def yX8_init : MethodName := ⟨RX8, "<init>", "(LBlueBag$Coast;)V"⟩
abbrev cX8_begin : ByteArray := prog_10_method_2_code
def yX8_begin : MethodName := ⟨RX8, "begin", "()V"⟩
abbrev cX8_copyFrom : ByteArray := prog_10_method_3_code
def yX8_copyFrom : MethodName := ⟨RX8, "copyFrom", "(LBlueBag$Sky;)V"⟩
abbrev cX8_save : ByteArray := prog_10_method_4_code
def yX8_save : MethodName := ⟨RX8, "save", "([II)V"⟩
abbrev cX8_load : ByteArray := prog_10_method_5_code
def yX8_load : MethodName := ⟨RX8, "load", "([II)V"⟩
abbrev cX8_blueOf : ByteArray := prog_10_method_6_code
def yX8_blueOf : MethodName := ⟨RX8, "blueOf", "(I)I"⟩
abbrev cX8_spotOf : ByteArray := prog_10_method_7_code
def yX8_spotOf : MethodName := ⟨RX8, "spotOf", "(I)I"⟩
abbrev cX8_skillOf : ByteArray := prog_10_method_8_code
def yX8_skillOf : MethodName := ⟨RX8, "skillOf", "(I)I"⟩
abbrev cX8_isPegged : ByteArray := prog_10_method_9_code
def yX8_isPegged : MethodName := ⟨RX8, "isPegged", "(I)Z"⟩
abbrev cX8_isResting : ByteArray := prog_10_method_10_code
def yX8_isResting : MethodName := ⟨RX8, "isResting", "(I)Z"⟩
abbrev cX8_setSpot : ByteArray := prog_10_method_11_code
def yX8_setSpot : MethodName := ⟨RX8, "setSpot", "(II)V"⟩
abbrev cX8_setSkill : ByteArray := prog_10_method_12_code
def yX8_setSkill : MethodName := ⟨RX8, "setSkill", "(II)V"⟩
abbrev cX8_setResting : ByteArray := prog_10_method_13_code
def yX8_setResting : MethodName := ⟨RX8, "setResting", "(IZ)V"⟩
abbrev cX8_setPeg : ByteArray := prog_10_method_14_code
def yX8_setPeg : MethodName := ⟨RX8, "setPeg", "(IZ)V"⟩
abbrev cX8_addKnobs : ByteArray := prog_10_method_15_code
def yX8_addKnobs : MethodName := ⟨RX8, "addKnobs", "(I)V"⟩
abbrev cX8_addBlue : ByteArray := prog_10_method_16_code
def yX8_addBlue : MethodName := ⟨RX8, "addBlue", "(II)V"⟩
abbrev cX8_passDay : ByteArray := prog_10_method_17_code
def yX8_passDay : MethodName := ⟨RX8, "passDay", "()V"⟩
abbrev cX8_isAsInTheMorning : ByteArray := prog_10_method_18_code
def yX8_isAsInTheMorning : MethodName := ⟨RX8, "isAsInTheMorning", "()Z"⟩
abbrev cX8_markOverdone : ByteArray := prog_10_method_19_code
def yX8_markOverdone : MethodName := ⟨RX8, "markOverdone", "()V"⟩
abbrev cX8_fade : ByteArray := prog_10_method_20_code
def yX8_fade : MethodName := ⟨RX8, "fade", "()V"⟩
abbrev cX8_fadeOf : ByteArray := prog_10_method_21_code
def yX8_fadeOf : MethodName := ⟨RX8, "fadeOf", "(I)I"⟩
abbrev cX8_swish : ByteArray := prog_10_method_22_code
def yX8_swish : MethodName := ⟨RX8, "swish", "(II)V"⟩
abbrev cX8_drip : ByteArray := prog_10_method_23_code
def yX8_drip : MethodName := ⟨RX8, "drip", "(II)V"⟩
abbrev cX8_dyeOf : ByteArray := prog_10_method_24_code
def yX8_dyeOf : MethodName := ⟨RX8, "dyeOf", "(II)I"⟩
abbrev cX8_setValues : ByteArray := prog_10_method_25_code
def yX8_setValues : MethodName := ⟨RX8, "setValues", "(I)V"⟩
abbrev cX8_allBlue : ByteArray := prog_10_method_26_code
def yX8_allBlue : MethodName := ⟨RX8, "allBlue", "()I"⟩
abbrev cX8_rowBlue : ByteArray := prog_10_method_27_code
def yX8_rowBlue : MethodName := ⟨RX8, "rowBlue", "(I)I"⟩
abbrev cX8_girlsAt : ByteArray := prog_10_method_28_code
def yX8_girlsAt : MethodName := ⟨RX8, "girlsAt", "(I)I"⟩
abbrev cX8_deepest : ByteArray := prog_10_method_29_code
def yX8_deepest : MethodName := ⟨RX8, "deepest", "()I"⟩
abbrev cX8_palest : ByteArray := prog_10_method_30_code
def yX8_palest : MethodName := ⟨RX8, "palest", "()I"⟩
abbrev cX8_uneven : ByteArray := prog_10_method_31_code
def yX8_uneven : MethodName := ⟨RX8, "uneven", "()I"⟩
abbrev cX8_runFrom : ByteArray := prog_10_method_32_code
def yX8_runFrom : MethodName := ⟨RX8, "runFrom", "(I)I"⟩
abbrev cX8_patchBits : ByteArray := prog_10_method_33_code
def yX8_patchBits : MethodName := ⟨RX8, "patchBits", "(II)I"⟩
abbrev cX8_besideWithin : ByteArray := prog_10_method_34_code
def yX8_besideWithin : MethodName := ⟨RX8, "besideWithin", "(II)I"⟩
abbrev cX8_wayBetween : ByteArray := prog_10_method_35_code
def yX8_wayBetween : MethodName := ⟨RX8, "wayBetween", "(II)I"⟩
def RX9 : String := "BlueBag$Tape"
def TX9 : u_T := fun k => match k with
  | 0 => ("BlueBag$Tape", "bytes", "[B", true)
  | _ => ("BlueBag$Tape", "length", "I", false)
def tyX9 : Nat → FieldType := fun k => match k with
  | 0 => .array .byte
  | _ => .int
abbrev wsX90 : List Cond := u_ws RX9 TX9 2
theorem nmX9 : ∀ a, a < 2 → ∀ b, b < 2 → a ≠ b → (TX9 a).2.1 ≠ (TX9 b).2.1 := by decide +kernel
theorem tyX9_ok : ∀ k, k < 2 → parseFieldDescriptor (TX9 k).2.2.1 = some (tyX9 k) := by decide +kernel
abbrev cX9_init : ByteArray := prog_11_method_1_code
def yX9_init : MethodName := ⟨RX9, "<init>", "()V"⟩
abbrev cX9_hasRoomFor : ByteArray := prog_11_method_2_code
def yX9_hasRoomFor : MethodName := ⟨RX9, "hasRoomFor", "(I)Z"⟩
abbrev cX9_put : ByteArray := prog_11_method_3_code
def yX9_put : MethodName := ⟨RX9, "put", "(I)V"⟩
abbrev cX9_byteAt : ByteArray := prog_11_method_4_code
def yX9_byteAt : MethodName := ⟨RX9, "byteAt", "(I)I"⟩
abbrev cX9_clear : ByteArray := prog_11_method_5_code
def yX9_clear : MethodName := ⟨RX9, "clear", "()V"⟩
def RX10 : String := "BlueBag$Tokens"
def TX10 : u_T := fun k => match k with
  | 0 => ("BlueBag$Tokens", "tape", "LBlueBag$Tape;", true)
  | 1 => ("BlueBag$Tokens", "end", "I", false)
  | 2 => ("BlueBag$Tokens", "kind", "I", false)
  | 3 => ("BlueBag$Tokens", "start", "I", false)
  | 4 => ("BlueBag$Tokens", "next", "I", false)
  | 5 => ("BlueBag$Tokens", "number", "I", false)
  | 6 => ("BlueBag$Tokens", "fault", "I", false)
  | _ => ("BlueBag$Tokens", "faultPlace", "I", false)
def tyX10 : Nat → FieldType := fun k => match k with
  | 0 => .object "BlueBag$Tape"
  | 1 => .int
  | 2 => .int
  | 3 => .int
  | 4 => .int
  | 5 => .int
  | 6 => .int
  | _ => .int
abbrev wsX100 : List Cond := u_ws RX10 TX10 8
theorem nmX10 : ∀ a, a < 8 → ∀ b, b < 8 → a ≠ b → (TX10 a).2.1 ≠ (TX10 b).2.1 := by decide +kernel
theorem tyX10_ok : ∀ k, k < 8 → parseFieldDescriptor (TX10 k).2.2.1 = some (tyX10 k) := by decide +kernel
abbrev cX10_init : ByteArray := prog_12_method_1_code
def yX10_init : MethodName := ⟨RX10, "<init>", "(LBlueBag$Tape;)V"⟩
abbrev cX10_begin : ByteArray := prog_12_method_2_code
def yX10_begin : MethodName := ⟨RX10, "begin", "(I)V"⟩
abbrev cX10_advance : ByteArray := prog_12_method_3_code
def yX10_advance : MethodName := ⟨RX10, "advance", "()V"⟩
abbrev cX10_isWord : ByteArray := prog_12_method_4_code
def yX10_isWord : MethodName := ⟨RX10, "isWord", "(Ljava/lang/String;)Z"⟩
abbrev cX10_isTooLong : ByteArray := prog_12_method_5_code
def yX10_isTooLong : MethodName := ⟨RX10, "isTooLong", "()Z"⟩
abbrev cX10_refuse : ByteArray := prog_12_method_6_code
def yX10_refuse : MethodName := ⟨RX10, "refuse", "(I)Z"⟩
abbrev cX10_passes : ByteArray := prog_12_method_7_code
def yX10_passes : MethodName := ⟨RX10, "passes", "(I)Z"⟩
abbrev cX10_isBlank : ByteArray := prog_12_method_8_code
def yX10_isBlank : MethodName := ⟨RX10, "isBlank", "(I)Z"⟩
abbrev cX10_isLetter : ByteArray := prog_12_method_9_code
def yX10_isLetter : MethodName := ⟨RX10, "isLetter", "(I)Z"⟩
abbrev cX10_isDigit : ByteArray := prog_12_method_10_code
def yX10_isDigit : MethodName := ⟨RX10, "isDigit", "(I)Z"⟩
def RX11 : String := "BlueBag"
def TX11 : u_T := fun k => match k with
  | 0 => ("BlueBag", "tape", "LBlueBag$Tape;", true)
  | 1 => ("BlueBag", "coast", "LBlueBag$Coast;", true)
  | 2 => ("BlueBag", "reader", "LBlueBag$CoastReader;", true)
  | 3 => ("BlueBag", "present", "LBlueBag$Memory;", true)
  | 4 => ("BlueBag", "pictured", "LBlueBag$Memory;", true)
  | 5 => ("BlueBag", "trial", "LBlueBag$Sky;", true)
  | 6 => ("BlueBag", "sending", "LBlueBag$Sending;", true)
  | 7 => ("BlueBag", "dice", "LBlueBag$Dice;", true)
  | 8 => ("BlueBag", "lowBlues", "[J", true)
  | 9 => ("BlueBag", "highBlues", "[J", true)
  | 10 => ("BlueBag", "gains", "[I", true)
  | 11 => ("BlueBag", "isPictured", "Z", false)
  | _ => ("BlueBag", "faultPlace", "I", false)
def tyX11 : Nat → FieldType := fun k => match k with
  | 0 => .object "BlueBag$Tape"
  | 1 => .object "BlueBag$Coast"
  | 2 => .object "BlueBag$CoastReader"
  | 3 => .object "BlueBag$Memory"
  | 4 => .object "BlueBag$Memory"
  | 5 => .object "BlueBag$Sky"
  | 6 => .object "BlueBag$Sending"
  | 7 => .object "BlueBag$Dice"
  | 8 => .array .long
  | 9 => .array .long
  | 10 => .array .int
  | 11 => .boolean
  | _ => .int
abbrev wsX110 : List Cond := u_ws RX11 TX11 13
theorem nmX11 : ∀ a, a < 13 → ∀ b, b < 13 → a ≠ b → (TX11 a).2.1 ≠ (TX11 b).2.1 := by decide +kernel
theorem tyX11_ok : ∀ k, k < 13 → parseFieldDescriptor (TX11 k).2.2.1 = some (tyX11 k) := by decide +kernel
abbrev cX11_init : ByteArray := prog_1_method_1_code
def yX11_init : MethodName := ⟨RX11, "<init>", "()V"⟩
abbrev cX11_feed : ByteArray := prog_1_method_2_code
def yX11_feed : MethodName := ⟨RX11, "feed", "(IIIII)I"⟩
abbrev cX11_coast : ByteArray := prog_1_method_3_code
def yX11_coast : MethodName := ⟨RX11, "coast", "(I)I"⟩
abbrev cX11_fault : ByteArray := prog_1_method_4_code
def yX11_fault : MethodName := ⟨RX11, "fault", "()I"⟩
abbrev cX11_count : ByteArray := prog_1_method_5_code
def yX11_count : MethodName := ⟨RX11, "count", "(I)I"⟩
abbrev cX11_cell : ByteArray := prog_1_method_6_code
def yX11_cell : MethodName := ⟨RX11, "cell", "(II)I"⟩
abbrev cX11_girl : ByteArray := prog_1_method_7_code
def yX11_girl : MethodName := ⟨RX11, "girl", "(II)I"⟩
abbrev cX11_days : ByteArray := prog_1_method_8_code
def yX11_days : MethodName := ⟨RX11, "days", "(I)I"⟩
abbrev cX11_rest : ByteArray := prog_1_method_9_code
def yX11_rest : MethodName := ⟨RX11, "rest", "(IZ)Z"⟩
abbrev cX11_go : ByteArray := prog_1_method_10_code
def yX11_go : MethodName := ⟨RX11, "go", "(II)I"⟩
abbrev cX11_bag : ByteArray := prog_1_method_11_code
def yX11_bag : MethodName := ⟨RX11, "bag", "(I)I"⟩
abbrev cX11_peg : ByteArray := prog_1_method_12_code
def yX11_peg : MethodName := ⟨RX11, "peg", "(IZ)I"⟩
abbrev cX11_undo : ByteArray := prog_1_method_13_code
def yX11_undo : MethodName := ⟨RX11, "undo", "()I"⟩
abbrev cX11_then : ByteArray := prog_1_method_14_code
def yX11_then : MethodName := ⟨RX11, "then", "(II)I"⟩
abbrev cX11_sky : ByteArray := prog_1_method_15_code
def yX11_sky : MethodName := ⟨RX11, "sky", "(II)I"⟩
abbrev cX11_overdone : ByteArray := prog_1_method_16_code
def yX11_overdone : MethodName := ⟨RX11, "overdone", "(I)I"⟩
abbrev cX11_first : ByteArray := prog_1_method_17_code
def yX11_first : MethodName := ⟨RX11, "first", "(I)I"⟩
abbrev cX11_spent : ByteArray := prog_1_method_18_code
def yX11_spent : MethodName := ⟨RX11, "spent", "()I"⟩
abbrev cX11_band : ByteArray := prog_1_method_19_code
def yX11_band : MethodName := ⟨RX11, "band", "(I)I"⟩
abbrev cX11_steady : ByteArray := prog_1_method_20_code
def yX11_steady : MethodName := ⟨RX11, "steady", "()I"⟩
abbrev cX11_streak : ByteArray := prog_1_method_21_code
def yX11_streak : MethodName := ⟨RX11, "streak", "(I)I"⟩
abbrev cX11_patch : ByteArray := prog_1_method_22_code
def yX11_patch : MethodName := ⟨RX11, "patch", "(II)I"⟩
abbrev cX11_patches : ByteArray := prog_1_method_23_code
def yX11_patches : MethodName := ⟨RX11, "patches", "(I)I"⟩
abbrev cX11_way : ByteArray := prog_1_method_24_code
def yX11_way : MethodName := ⟨RX11, "way", "(II)I"⟩
abbrev cX11_steps : ByteArray := prog_1_method_25_code
def yX11_steps : MethodName := ⟨RX11, "steps", "(II)I"⟩
abbrev cX11_nearest : ByteArray := prog_1_method_26_code
def yX11_nearest : MethodName := ⟨RX11, "nearest", "(I)I"⟩
abbrev cX11_toRest : ByteArray := prog_1_method_27_code
def yX11_toRest : MethodName := ⟨RX11, "toRest", "()I"⟩
abbrev cX11_toStand : ByteArray := prog_1_method_28_code
def yX11_toStand : MethodName := ⟨RX11, "toStand", "(II)I"⟩
abbrev cX11_toSwish : ByteArray := prog_1_method_29_code
def yX11_toSwish : MethodName := ⟨RX11, "toSwish", "(II)I"⟩
abbrev cX11_sent : ByteArray := prog_1_method_30_code
def yX11_sent : MethodName := ⟨RX11, "sent", "(II)I"⟩
abbrev cX11_missed : ByteArray := prog_1_method_31_code
def yX11_missed : MethodName := ⟨RX11, "missed", "(I)I"⟩
abbrev cX11_see : ByteArray := prog_1_method_32_code
def yX11_see : MethodName := ⟨RX11, "see", "(III)I"⟩
abbrev cX11_skilled : ByteArray := prog_1_method_33_code
def yX11_skilled : MethodName := ⟨RX11, "skilled", "(I)I"⟩
abbrev cX11_look : ByteArray := prog_1_method_34_code
def yX11_look : MethodName := ⟨RX11, "look", "(I)I"⟩
abbrev cX11_forget : ByteArray := prog_1_method_35_code
def yX11_forget : MethodName := ⟨RX11, "forget", "()V"⟩
abbrev cX11_game : ByteArray := prog_1_method_36_code
def yX11_game : MethodName := ⟨RX11, "game", "(III)I"⟩
abbrev cX11_skies : ByteArray := prog_1_method_37_code
def yX11_skies : MethodName := ⟨RX11, "skies", "(III)I"⟩
abbrev cX11_image : ByteArray := prog_1_method_38_code
def yX11_image : MethodName := ⟨RX11, "image", "()V"⟩
abbrev cX11_restore : ByteArray := prog_1_method_39_code
def yX11_restore : MethodName := ⟨RX11, "restore", "()Z"⟩
abbrev cX11_needCell : ByteArray := prog_1_method_40_code
def yX11_needCell : MethodName := ⟨RX11, "needCell", "(I)V"⟩
abbrev cX11_needGirl : ByteArray := prog_1_method_41_code
def yX11_needGirl : MethodName := ⟨RX11, "needGirl", "(I)V"⟩
abbrev cX11_needWhat : ByteArray := prog_1_method_42_code
def yX11_needWhat : MethodName := ⟨RX11, "needWhat", "(II)V"⟩
abbrev cX11_needWithin : ByteArray := prog_1_method_43_code
def yX11_needWithin : MethodName := ⟨RX11, "needWithin", "(III)V"⟩
abbrev cX11_refuseAct : ByteArray := prog_1_method_44_code
def yX11_refuseAct : MethodName := ⟨RX11, "refuseAct", "()I"⟩
abbrev cX11_lookAhead : ByteArray := prog_1_method_45_code
def yX11_lookAhead : MethodName := ⟨RX11, "lookAhead", "(I)V"⟩
abbrev cX11_lookAheadIfResting : ByteArray := prog_1_method_46_code
def yX11_lookAheadIfResting : MethodName := ⟨RX11, "lookAheadIfResting", "(IZ)V"⟩
abbrev cX11_wouldFit : ByteArray := prog_1_method_47_code
def yX11_wouldFit : MethodName := ⟨RX11, "wouldFit", "(II)Z"⟩
abbrev cX11_clearBlues : ByteArray := prog_1_method_48_code
def yX11_clearBlues : MethodName := ⟨RX11, "clearBlues", "()V"⟩
abbrev cX11_gatherBlues : ByteArray := prog_1_method_49_code
def yX11_gatherBlues : MethodName := ⟨RX11, "gatherBlues", "(II)V"⟩
abbrev cX11_unlikeBlues : ByteArray := prog_1_method_50_code
def yX11_unlikeBlues : MethodName := ⟨RX11, "unlikeBlues", "(I)I"⟩
abbrev cX11_playAll : ByteArray := prog_1_method_51_code
def yX11_playAll : MethodName := ⟨RX11, "playAll", "(II)V"⟩
abbrev cX11_gainAt : ByteArray := prog_1_method_52_code
def yX11_gainAt : MethodName := ⟨RX11, "gainAt", "(III)I"⟩
abbrev cX11_drawAhead : ByteArray := prog_1_method_53_code
def yX11_drawAhead : MethodName := ⟨RX11, "drawAhead", "()V"⟩
def RX12 : String := "BlueBagModel"
def TX12 : u_T := fun k => match k with
  | 0 => ("BlueBagModel", "women", "[Ljava/lang/String;", true)
  | 1 => ("BlueBagModel", "ofDyes", "[Ljava/lang/String;", true)
  | 2 => ("BlueBagModel", "ofFades", "[Ljava/lang/String;", true)
  | 3 => ("BlueBagModel", "values", "[Ljava/lang/String;", false)
  | 4 => ("BlueBagModel", "code", "I", false)
  | 5 => ("BlueBagModel", "told", "[I", true)
  | 6 => ("BlueBagModel", "blueTold", "[I", true)
  | 7 => ("BlueBagModel", "aged", "[I", true)
  | 8 => ("BlueBagModel", "skillTold", "[I", true)
  | 9 => ("BlueBagModel", "cellTold", "[I", true)
  | 10 => ("BlueBagModel", "signsDyes", "[I", true)
  | 11 => ("BlueBagModel", "signsFades", "[I", true)
  | 12 => ("BlueBagModel", "status", "[I", true)
  | 13 => ("BlueBagModel", "skills", "[I", true)
  | 14 => ("BlueBagModel", "tape", "[I", true)
  | 15 => ("BlueBagModel", "taped", "I", false)
  | 16 => ("BlueBagModel", "at", "I", false)
  | 17 => ("BlueBagModel", "size", "I", false)
  | 18 => ("BlueBagModel", "token", "I", false)
  | 19 => ("BlueBagModel", "number", "I", false)
  | 20 => ("BlueBagModel", "begins", "I", false)
  | 21 => ("BlueBagModel", "stops", "I", false)
  | 22 => ("BlueBagModel", "bad", "I", false)
  | 23 => ("BlueBagModel", "badPlace", "I", false)
  | 24 => ("BlueBagModel", "faultPlace", "I", false)
  | 25 => ("BlueBagModel", "blued", "I", false)
  | 26 => ("BlueBagModel", "anyCell", "Z", false)
  | 27 => ("BlueBagModel", "ofFading", "Z", false)
  | 28 => ("BlueBagModel", "blue", "[I", true)
  | 29 => ("BlueBagModel", "where", "[I", true)
  | 30 => ("BlueBagModel", "past", "[I", true)
  | 31 => ("BlueBagModel", "day", "I", false)
  | 32 => ("BlueBagModel", "knobs", "I", false)
  | 33 => ("BlueBagModel", "martins", "I", false)
  | 34 => ("BlueBagModel", "pegs", "I", false)
  | 35 => ("BlueBagModel", "resting", "I", false)
  | 36 => ("BlueBagModel", "acts", "I", false)
  | 37 => ("BlueBagModel", "seen", "I", false)
  | 38 => ("BlueBagModel", "asked", "[I", true)
  | 39 => ("BlueBagModel", "stack", "[I", true)
  | 40 => ("BlueBagModel", "fading", "[I", true)
  | 41 => ("BlueBagModel", "over", "I", false)
  | 42 => ("BlueBagModel", "rowThen", "[I", true)
  | 43 => ("BlueBagModel", "blueThen", "[I", true)
  | 44 => ("BlueBagModel", "leastBy", "[I", true)
  | 45 => ("BlueBagModel", "goals", "[I", true)
  | 46 => ("BlueBagModel", "seenCell", "[I", true)
  | 47 => ("BlueBagModel", "seenIn", "[I", true)
  | 48 => ("BlueBagModel", "seenBlue", "[I", true)
  | 49 => ("BlueBagModel", "rowSeen", "[I", true)
  | 50 => ("BlueBagModel", "fits", "[I", true)
  | 51 => ("BlueBagModel", "bluesThen", "[I", true)
  | 52 => ("BlueBagModel", "fitMany", "I", false)
  | 53 => ("BlueBagModel", "gains", "[I", true)
  | 54 => ("BlueBagModel", "seedNow", "I", false)
  | 55 => ("BlueBagModel", "hasImage", "Z", false)
  | 56 => ("BlueBagModel", "actsThen", "I", false)
  | 57 => ("BlueBagModel", "seenThen", "I", false)
  | 58 => ("BlueBagModel", "imageRow", "[I", true)
  | 59 => ("BlueBagModel", "pastThen", "[I", true)
  | 60 => ("BlueBagModel", "seenCellThen", "[I", true)
  | 61 => ("BlueBagModel", "seenInThen", "[I", true)
  | 62 => ("BlueBagModel", "seenBlueThen", "[I", true)
  | _ => ("BlueBagModel", "statusThen", "[I", true)
def tyX12 : Nat → FieldType := fun k => match k with
  | 0 => .array (.object "java/lang/String")
  | 1 => .array (.object "java/lang/String")
  | 2 => .array (.object "java/lang/String")
  | 3 => .array (.object "java/lang/String")
  | 4 => .int
  | 5 => .array .int
  | 6 => .array .int
  | 7 => .array .int
  | 8 => .array .int
  | 9 => .array .int
  | 10 => .array .int
  | 11 => .array .int
  | 12 => .array .int
  | 13 => .array .int
  | 14 => .array .int
  | 15 => .int
  | 16 => .int
  | 17 => .int
  | 18 => .int
  | 19 => .int
  | 20 => .int
  | 21 => .int
  | 22 => .int
  | 23 => .int
  | 24 => .int
  | 25 => .int
  | 26 => .boolean
  | 27 => .boolean
  | 28 => .array .int
  | 29 => .array .int
  | 30 => .array .int
  | 31 => .int
  | 32 => .int
  | 33 => .int
  | 34 => .int
  | 35 => .int
  | 36 => .int
  | 37 => .int
  | 38 => .array .int
  | 39 => .array .int
  | 40 => .array .int
  | 41 => .int
  | 42 => .array .int
  | 43 => .array .int
  | 44 => .array .int
  | 45 => .array .int
  | 46 => .array .int
  | 47 => .array .int
  | 48 => .array .int
  | 49 => .array .int
  | 50 => .array .int
  | 51 => .array .int
  | 52 => .int
  | 53 => .array .int
  | 54 => .int
  | 55 => .boolean
  | 56 => .int
  | 57 => .int
  | 58 => .array .int
  | 59 => .array .int
  | 60 => .array .int
  | 61 => .array .int
  | 62 => .array .int
  | _ => .array .int
abbrev wsX120 : List Cond := u_ws RX12 TX12 64
theorem nmX12 : ∀ a, a < 64 → ∀ b, b < 64 → a ≠ b → (TX12 a).2.1 ≠ (TX12 b).2.1 := by decide +kernel
theorem tyX12_ok : ∀ k, k < 64 → parseFieldDescriptor (TX12 k).2.2.1 = some (tyX12 k) := by decide +kernel
abbrev cX12_init : ByteArray := prog_14_method_1_code
def yX12_init : MethodName := ⟨RX12, "<init>", "()V"⟩
abbrev cX12_begin : ByteArray := prog_14_method_2_code
def yX12_begin : MethodName := ⟨RX12, "begin", "(I)V"⟩
abbrev cX12_thrown : ByteArray := prog_14_method_3_code
def yX12_thrown : MethodName := ⟨RX12, "thrown", "()I"⟩
abbrev cX12_fail : ByteArray := prog_14_method_4_code
def yX12_fail : MethodName := ⟨RX12, "fail", "(I)I"⟩
abbrev cX12_failing : ByteArray := prog_14_method_5_code
def yX12_failing : MethodName := ⟨RX12, "failing", "(I)Z"⟩
abbrev cX12_isIn : ByteArray := prog_14_method_6_code
def yX12_isIn : MethodName := ⟨RX12, "isIn", "(JJJ)Z"⟩
abbrev cX12_isOf : ByteArray := prog_14_method_7_code
def yX12_isOf : MethodName := ⟨RX12, "isOf", "(II)Z"⟩
abbrev cX12_bitsOf : ByteArray := prog_14_method_8_code
def yX12_bitsOf : MethodName := ⟨RX12, "bitsOf", "(I)I"⟩
abbrev cX12_cells : ByteArray := prog_14_method_9_code
def yX12_cells : MethodName := ⟨RX12, "cells", "()I"⟩
abbrev cX12_isCell : ByteArray := prog_14_method_10_code
def yX12_isCell : MethodName := ⟨RX12, "isCell", "(I)Z"⟩
abbrev cX12_isGirl : ByteArray := prog_14_method_11_code
def yX12_isGirl : MethodName := ⟨RX12, "isGirl", "(I)Z"⟩
abbrev cX12_feed : ByteArray := prog_14_method_12_code
def yX12_feed : MethodName := ⟨RX12, "feed", "(IIIII)I"⟩
abbrev cX12_byteAt : ByteArray := prog_14_method_13_code
def yX12_byteAt : MethodName := ⟨RX12, "byteAt", "(I)I"⟩
abbrev cX12_isLetter : ByteArray := prog_14_method_14_code
def yX12_isLetter : MethodName := ⟨RX12, "isLetter", "(I)Z"⟩
abbrev cX12_isDigit : ByteArray := prog_14_method_15_code
def yX12_isDigit : MethodName := ⟨RX12, "isDigit", "(I)Z"⟩
abbrev cX12_isMark : ByteArray := prog_14_method_16_code
def yX12_isMark : MethodName := ⟨RX12, "isMark", "(I)Z"⟩
abbrev cX12_stepOn : ByteArray := prog_14_method_17_code
def yX12_stepOn : MethodName := ⟨RX12, "stepOn", "()V"⟩
abbrev cX12_wrong : ByteArray := prog_14_method_18_code
def yX12_wrong : MethodName := ⟨RX12, "wrong", "(I)V"⟩
abbrev cX12_is : ByteArray := prog_14_method_19_code
def yX12_is : MethodName := ⟨RX12, "is", "(Ljava/lang/String;)Z"⟩
abbrev cX12_which : ByteArray := prog_14_method_20_code
def yX12_which : MethodName := ⟨RX12, "which", "([Ljava/lang/String;)I"⟩
abbrev cX12_isMarked : ByteArray := prog_14_method_21_code
def yX12_isMarked : MethodName := ⟨RX12, "isMarked", "(I)Z"⟩
abbrev cX12_mark : ByteArray := prog_14_method_22_code
def yX12_mark : MethodName := ⟨RX12, "mark", "(I)V"⟩
abbrev cX12_numberNow : ByteArray := prog_14_method_23_code
def yX12_numberNow : MethodName := ⟨RX12, "numberNow", "(II)I"⟩
abbrev cX12_readNumber : ByteArray := prog_14_method_24_code
def yX12_readNumber : MethodName := ⟨RX12, "readNumber", "(II)I"⟩
abbrev cX12_cellNow : ByteArray := prog_14_method_25_code
def yX12_cellNow : MethodName := ⟨RX12, "cellNow", "(I)I"⟩
abbrev cX12_lay : ByteArray := prog_14_method_26_code
def yX12_lay : MethodName := ⟨RX12, "lay", "(I)V"⟩
abbrev cX12_readPart : ByteArray := prog_14_method_27_code
def yX12_readPart : MethodName := ⟨RX12, "readPart", "(I)V"⟩
abbrev cX12_readProduct : ByteArray := prog_14_method_28_code
def yX12_readProduct : MethodName := ⟨RX12, "readProduct", "(I)V"⟩
abbrev cX12_readSum : ByteArray := prog_14_method_29_code
def yX12_readSum : MethodName := ⟨RX12, "readSum", "(I)V"⟩
abbrev cX12_readNot : ByteArray := prog_14_method_30_code
def yX12_readNot : MethodName := ⟨RX12, "readNot", "(I)V"⟩
abbrev cX12_readAnd : ByteArray := prog_14_method_31_code
def yX12_readAnd : MethodName := ⟨RX12, "readAnd", "(I)V"⟩
abbrev cX12_readExpression : ByteArray := prog_14_method_32_code
def yX12_readExpression : MethodName := ⟨RX12, "readExpression", "(I)V"⟩
abbrev cX12_saySky : ByteArray := prog_14_method_33_code
def yX12_saySky : MethodName := ⟨RX12, "saySky", "()V"⟩
abbrev cX12_sayBlue : ByteArray := prog_14_method_34_code
def yX12_sayBlue : MethodName := ⟨RX12, "sayBlue", "()V"⟩
abbrev cX12_sayWoman : ByteArray := prog_14_method_35_code
def yX12_sayWoman : MethodName := ⟨RX12, "sayWoman", "(I)V"⟩
abbrev cX12_sayPegs : ByteArray := prog_14_method_36_code
def yX12_sayPegs : MethodName := ⟨RX12, "sayPegs", "()V"⟩
abbrev cX12_sayRule : ByteArray := prog_14_method_37_code
def yX12_sayRule : MethodName := ⟨RX12, "sayRule", "(Z)V"⟩
abbrev cX12_sayOnce : ByteArray := prog_14_method_38_code
def yX12_sayOnce : MethodName := ⟨RX12, "sayOnce", "(I)V"⟩
abbrev cX12_readLine : ByteArray := prog_14_method_39_code
def yX12_readLine : MethodName := ⟨RX12, "readLine", "(I)I"⟩
abbrev cX12_coast : ByteArray := prog_14_method_40_code
def yX12_coast : MethodName := ⟨RX12, "coast", "(I)I"⟩
abbrev cX12_takeHalf : ByteArray := prog_14_method_41_code
def yX12_takeHalf : MethodName := ⟨RX12, "takeHalf", "([I)V"⟩
abbrev cX12_takeOver : ByteArray := prog_14_method_42_code
def yX12_takeOver : MethodName := ⟨RX12, "takeOver", "()V"⟩
abbrev cX12_fault : ByteArray := prog_14_method_43_code
def yX12_fault : MethodName := ⟨RX12, "fault", "()I"⟩
abbrev cX12_pack : ByteArray := prog_14_method_44_code
def yX12_pack : MethodName := ⟨RX12, "pack", "([II)V"⟩
abbrev cX12_unpack : ByteArray := prog_14_method_45_code
def yX12_unpack : MethodName := ⟨RX12, "unpack", "([II)V"⟩
abbrev cX12_columnOf : ByteArray := prog_14_method_46_code
def yX12_columnOf : MethodName := ⟨RX12, "columnOf", "(I)I"⟩
abbrev cX12_rowOf : ByteArray := prog_14_method_47_code
def yX12_rowOf : MethodName := ⟨RX12, "rowOf", "(I)I"⟩
abbrev cX12_farOf : ByteArray := prog_14_method_48_code
def yX12_farOf : MethodName := ⟨RX12, "farOf", "(II)I"⟩
abbrev cX12_besideOf : ByteArray := prog_14_method_49_code
def yX12_besideOf : MethodName := ⟨RX12, "besideOf", "(I)I"⟩
abbrev cX12_blueBeside : ByteArray := prog_14_method_50_code
def yX12_blueBeside : MethodName := ⟨RX12, "blueBeside", "(I)I"⟩
abbrev cX12_reckon : ByteArray := prog_14_method_51_code
def yX12_reckon : MethodName := ⟨RX12, "reckon", "(III)I"⟩
abbrev cX12_valueNow : ByteArray := prog_14_method_52_code
def yX12_valueNow : MethodName := ⟨RX12, "valueNow", "([II)I"⟩
abbrev cX12_ask : ByteArray := prog_14_method_53_code
def yX12_ask : MethodName := ⟨RX12, "ask", "(I)V"⟩
abbrev cX12_dyesOf : ByteArray := prog_14_method_54_code
def yX12_dyesOf : MethodName := ⟨RX12, "dyesOf", "(II)I"⟩
abbrev cX12_fadesOf : ByteArray := prog_14_method_55_code
def yX12_fadesOf : MethodName := ⟨RX12, "fadesOf", "(I)I"⟩
abbrev cX12_dye : ByteArray := prog_14_method_56_code
def yX12_dye : MethodName := ⟨RX12, "dye", "(II)V"⟩
abbrev cX12_swish : ByteArray := prog_14_method_57_code
def yX12_swish : MethodName := ⟨RX12, "swish", "(II)V"⟩
abbrev cX12_aDay : ByteArray := prog_14_method_58_code
def yX12_aDay : MethodName := ⟨RX12, "aDay", "()V"⟩
abbrev cX12_goOn : ByteArray := prog_14_method_59_code
def yX12_goOn : MethodName := ⟨RX12, "goOn", "(I)V"⟩
abbrev cX12_allBlue : ByteArray := prog_14_method_60_code
def yX12_allBlue : MethodName := ⟨RX12, "allBlue", "()I"⟩
abbrev cX12_count : ByteArray := prog_14_method_61_code
def yX12_count : MethodName := ⟨RX12, "count", "(I)I"⟩
abbrev cX12_girlsAt : ByteArray := prog_14_method_62_code
def yX12_girlsAt : MethodName := ⟨RX12, "girlsAt", "(I)I"⟩
abbrev cX12_patchOf : ByteArray := prog_14_method_63_code
def yX12_patchOf : MethodName := ⟨RX12, "patchOf", "(II)I"⟩
abbrev cX12_cell : ByteArray := prog_14_method_64_code
def yX12_cell : MethodName := ⟨RX12, "cell", "(II)I"⟩
abbrev cX12_girl : ByteArray := prog_14_method_65_code
def yX12_girl : MethodName := ⟨RX12, "girl", "(II)I"⟩
abbrev cX12_refuse : ByteArray := prog_14_method_66_code
def yX12_refuse : MethodName := ⟨RX12, "refuse", "(I)I"⟩
abbrev cX12_keep : ByteArray := prog_14_method_67_code
def yX12_keep : MethodName := ⟨RX12, "keep", "()V"⟩
abbrev cX12_days : ByteArray := prog_14_method_68_code
def yX12_days : MethodName := ⟨RX12, "days", "(I)I"⟩
abbrev cX12_rest : ByteArray := prog_14_method_69_code
def yX12_rest : MethodName := ⟨RX12, "rest", "(IZ)Z"⟩
abbrev cX12_go : ByteArray := prog_14_method_70_code
def yX12_go : MethodName := ⟨RX12, "go", "(II)I"⟩
abbrev cX12_bag : ByteArray := prog_14_method_71_code
def yX12_bag : MethodName := ⟨RX12, "bag", "(I)I"⟩
abbrev cX12_peg : ByteArray := prog_14_method_72_code
def yX12_peg : MethodName := ⟨RX12, "peg", "(IZ)I"⟩
abbrev cX12_undo : ByteArray := prog_14_method_73_code
def yX12_undo : MethodName := ⟨RX12, "undo", "()I"⟩
abbrev cX12_then : ByteArray := prog_14_method_74_code
def yX12_then : MethodName := ⟨RX12, "then", "(II)I"⟩
abbrev cX12_extreme : ByteArray := prog_14_method_75_code
def yX12_extreme : MethodName := ⟨RX12, "extreme", "(Z)I"⟩
abbrev cX12_uneven : ByteArray := prog_14_method_76_code
def yX12_uneven : MethodName := ⟨RX12, "uneven", "()I"⟩
abbrev cX12_sky : ByteArray := prog_14_method_77_code
def yX12_sky : MethodName := ⟨RX12, "sky", "(II)I"⟩
abbrev cX12_overdone : ByteArray := prog_14_method_78_code
def yX12_overdone : MethodName := ⟨RX12, "overdone", "(I)I"⟩
abbrev cX12_first : ByteArray := prog_14_method_79_code
def yX12_first : MethodName := ⟨RX12, "first", "(I)I"⟩
abbrev cX12_spent : ByteArray := prog_14_method_80_code
def yX12_spent : MethodName := ⟨RX12, "spent", "()I"⟩
abbrev cX12_band : ByteArray := prog_14_method_81_code
def yX12_band : MethodName := ⟨RX12, "band", "(I)I"⟩
abbrev cX12_steady : ByteArray := prog_14_method_82_code
def yX12_steady : MethodName := ⟨RX12, "steady", "()I"⟩
abbrev cX12_streakFrom : ByteArray := prog_14_method_83_code
def yX12_streakFrom : MethodName := ⟨RX12, "streakFrom", "(I)I"⟩
abbrev cX12_streak : ByteArray := prog_14_method_84_code
def yX12_streak : MethodName := ⟨RX12, "streak", "(I)I"⟩
abbrev cX12_patch : ByteArray := prog_14_method_85_code
def yX12_patch : MethodName := ⟨RX12, "patch", "(II)I"⟩
abbrev cX12_patches : ByteArray := prog_14_method_86_code
def yX12_patches : MethodName := ⟨RX12, "patches", "(I)I"⟩
abbrev cX12_way : ByteArray := prog_14_method_87_code
def yX12_way : MethodName := ⟨RX12, "way", "(II)I"⟩
abbrev cX12_unevenNext : ByteArray := prog_14_method_88_code
def yX12_unevenNext : MethodName := ⟨RX12, "unevenNext", "()I"⟩
abbrev cX12_toRest : ByteArray := prog_14_method_89_code
def yX12_toRest : MethodName := ⟨RX12, "toRest", "()I"⟩
abbrev cX12_toStand : ByteArray := prog_14_method_90_code
def yX12_toStand : MethodName := ⟨RX12, "toStand", "(II)I"⟩
abbrev cX12_toSwish : ByteArray := prog_14_method_91_code
def yX12_toSwish : MethodName := ⟨RX12, "toSwish", "(II)I"⟩
abbrev cX12_missed : ByteArray := prog_14_method_92_code
def yX12_missed : MethodName := ⟨RX12, "missed", "(I)I"⟩
abbrev cX12_steps : ByteArray := prog_14_method_93_code
def yX12_steps : MethodName := ⟨RX12, "steps", "(II)I"⟩
abbrev cX12_nearest : ByteArray := prog_14_method_94_code
def yX12_nearest : MethodName := ⟨RX12, "nearest", "(I)I"⟩
abbrev cX12_with : ByteArray := prog_14_method_95_code
def yX12_with : MethodName := ⟨RX12, "with", "(III)I"⟩
abbrev cX12_tellLeast : ByteArray := prog_14_method_96_code
def yX12_tellLeast : MethodName := ⟨RX12, "tellLeast", "(I)V"⟩
abbrev cX12_sent : ByteArray := prog_14_method_97_code
def yX12_sent : MethodName := ⟨RX12, "sent", "(II)I"⟩
abbrev cX12_see : ByteArray := prog_14_method_98_code
def yX12_see : MethodName := ⟨RX12, "see", "(III)I"⟩
abbrev cX12_isAsSeen : ByteArray := prog_14_method_99_code
def yX12_isAsSeen : MethodName := ⟨RX12, "isAsSeen", "()Z"⟩
abbrev cX12_tellFits : ByteArray := prog_14_method_100_code
def yX12_tellFits : MethodName := ⟨RX12, "tellFits", "()V"⟩
abbrev cX12_skilled : ByteArray := prog_14_method_101_code
def yX12_skilled : MethodName := ⟨RX12, "skilled", "(I)I"⟩
abbrev cX12_unlike : ByteArray := prog_14_method_102_code
def yX12_unlike : MethodName := ⟨RX12, "unlike", "(I)I"⟩
abbrev cX12_look : ByteArray := prog_14_method_103_code
def yX12_look : MethodName := ⟨RX12, "look", "(I)I"⟩
abbrev cX12_forget : ByteArray := prog_14_method_104_code
def yX12_forget : MethodName := ⟨RX12, "forget", "()V"⟩
abbrev cX12_tellGains : ByteArray := prog_14_method_105_code
def yX12_tellGains : MethodName := ⟨RX12, "tellGains", "(II)V"⟩
abbrev cX12_game : ByteArray := prog_14_method_106_code
def yX12_game : MethodName := ⟨RX12, "game", "(III)I"⟩
abbrev cX12_drawOf : ByteArray := prog_14_method_107_code
def yX12_drawOf : MethodName := ⟨RX12, "drawOf", "(I)I"⟩
abbrev cX12_something : ByteArray := prog_14_method_108_code
def yX12_something : MethodName := ⟨RX12, "something", "()V"⟩
abbrev cX12_skies : ByteArray := prog_14_method_109_code
def yX12_skies : MethodName := ⟨RX12, "skies", "(III)I"⟩
abbrev cX12_copyTo : ByteArray := prog_14_method_110_code
def yX12_copyTo : MethodName := ⟨RX12, "copyTo", "([I[I)V"⟩
abbrev cX12_image : ByteArray := prog_14_method_111_code
def yX12_image : MethodName := ⟨RX12, "image", "()V"⟩
abbrev cX12_restore : ByteArray := prog_14_method_112_code
def yX12_restore : MethodName := ⟨RX12, "restore", "()Z"⟩
def RJx145de : String := "java/io/Serializable"
def TJx145de : u_T := fun k => match k with
  | _ => ("", "", "", false)
def tyJx145de : Nat → FieldType := fun k => match k with
  | _ => .int
abbrev wsJx145de0 : List Cond := u_ws RJx145de TJx145de 0
theorem nmJx145de : ∀ a, a < 0 → ∀ b, b < 0 → a ≠ b → (TJx145de a).2.1 ≠ (TJx145de b).2.1 := by decide +kernel
theorem tyJx145de_ok : ∀ k, k < 0 → parseFieldDescriptor (TJx145de k).2.2.1 = some (tyJx145de k) := by decide +kernel
def RJx9f9b0 : String := "java/lang/CharSequence"
def TJx9f9b0 : u_T := fun k => match k with
  | _ => ("", "", "", false)
def tyJx9f9b0 : Nat → FieldType := fun k => match k with
  | _ => .int
abbrev wsJx9f9b00 : List Cond := u_ws RJx9f9b0 TJx9f9b0 0
theorem nmJx9f9b0 : ∀ a, a < 0 → ∀ b, b < 0 → a ≠ b → (TJx9f9b0 a).2.1 ≠ (TJx9f9b0 b).2.1 := by decide +kernel
theorem tyJx9f9b0_ok : ∀ k, k < 0 → parseFieldDescriptor (TJx9f9b0 k).2.2.1 = some (tyJx9f9b0 k) := by decide +kernel
def RJxb160c : String := "java/lang/Comparable"
def TJxb160c : u_T := fun k => match k with
  | _ => ("", "", "", false)
def tyJxb160c : Nat → FieldType := fun k => match k with
  | _ => .int
abbrev wsJxb160c0 : List Cond := u_ws RJxb160c TJxb160c 0
theorem nmJxb160c : ∀ a, a < 0 → ∀ b, b < 0 → a ≠ b → (TJxb160c a).2.1 ≠ (TJxb160c b).2.1 := by decide +kernel
theorem tyJxb160c_ok : ∀ k, k < 0 → parseFieldDescriptor (TJxb160c k).2.2.1 = some (tyJxb160c k) := by decide +kernel
def RJ6 : String := "java/lang/Integer"
def TJ6 : u_T := fun k => match k with
  | _ => ("", "", "", false)
def tyJ6 : Nat → FieldType := fun k => match k with
  | _ => .int
abbrev wsJ60 : List Cond := u_ws RJ6 TJ6 0
theorem nmJ6 : ∀ a, a < 0 → ∀ b, b < 0 → a ≠ b → (TJ6 a).2.1 ≠ (TJ6 b).2.1 := by decide +kernel
theorem tyJ6_ok : ∀ k, k < 0 → parseFieldDescriptor (TJ6 k).2.2.1 = some (tyJ6 k) := by decide +kernel
abbrev cJ6_bitCount_0f7a4 : ByteArray := prog_20_method_49_code
def yJ6_bitCount_0f7a4 : MethodName := ⟨RJ6, "bitCount", "(I)I"⟩
def RJ13 : String := "java/lang/Long"
def TJ13 : u_T := fun k => match k with
  | _ => ("", "", "", false)
def tyJ13 : Nat → FieldType := fun k => match k with
  | _ => .int
abbrev wsJ130 : List Cond := u_ws RJ13 TJ13 0
theorem nmJ13 : ∀ a, a < 0 → ∀ b, b < 0 → a ≠ b → (TJ13 a).2.1 ≠ (TJ13 b).2.1 := by decide +kernel
theorem tyJ13_ok : ∀ k, k < 0 → parseFieldDescriptor (TJ13 k).2.2.1 = some (tyJ13 k) := by decide +kernel
abbrev cJ13_bitCount_95d88 : ByteArray := prog_21_method_50_code
def yJ13_bitCount_95d88 : MethodName := ⟨RJ13, "bitCount", "(J)I"⟩
def RJ9 : String := "java/lang/Math"
def TJ9 : u_T := fun k => match k with
  | _ => ("", "", "", false)
def tyJ9 : Nat → FieldType := fun k => match k with
  | _ => .int
abbrev wsJ90 : List Cond := u_ws RJ9 TJ9 0
theorem nmJ9 : ∀ a, a < 0 → ∀ b, b < 0 → a ≠ b → (TJ9 a).2.1 ≠ (TJ9 b).2.1 := by decide +kernel
theorem tyJ9_ok : ∀ k, k < 0 → parseFieldDescriptor (TJ9 k).2.2.1 = some (tyJ9 k) := by decide +kernel
abbrev cJ9_abs_0f7a4 : ByteArray := prog_22_method_59_code
def yJ9_abs_0f7a4 : MethodName := ⟨RJ9, "abs", "(I)I"⟩
abbrev cJ9_max_7cf53 : ByteArray := prog_22_method_65_code
def yJ9_max_7cf53 : MethodName := ⟨RJ9, "max", "(II)I"⟩
abbrev cJ9_min_7cf53 : ByteArray := prog_22_method_69_code
def yJ9_min_7cf53 : MethodName := ⟨RJ9, "min", "(II)I"⟩
def RJ0 : String := "java/lang/String"
def TJ0 : u_T := fun k => match k with
  | _ => ("", "", "", false)
def tyJ0 : Nat → FieldType := fun k => match k with
  | _ => .int
abbrev wsJ00 : List Cond := u_ws RJ0 TJ0 0
theorem nmJ0 : ∀ a, a < 0 → ∀ b, b < 0 → a ≠ b → (TJ0 a).2.1 ≠ (TJ0 b).2.1 := by decide +kernel
theorem tyJ0_ok : ∀ k, k < 0 → parseFieldDescriptor (TJ0 k).2.2.1 = some (tyJ0 k) := by decide +kernel
abbrev cJ0_length_8abf5 : ByteArray := prog_24_method_54_code
def yJ0_length_8abf5 : MethodName := ⟨RJ0, "length", "()I"⟩
abbrev cJ0_charAt_5068e : ByteArray := prog_24_method_56_code
def yJ0_charAt_5068e : MethodName := ⟨RJ0, "charAt", "(I)C"⟩
abbrev cJ0_coder_7d493 : ByteArray := prog_24_method_152_code
def yJ0_coder_7d493 : MethodName := ⟨RJ0, "coder", "()B"⟩
abbrev cJ0_isLatin1_aae02 : ByteArray := prog_24_method_154_code
def yJ0_isLatin1_aae02 : MethodName := ⟨RJ0, "isLatin1", "()Z"⟩
abbrev cJ0_checkIndex_df160 : ByteArray := prog_24_method_155_code
def yJ0_checkIndex_df160 : MethodName := ⟨RJ0, "checkIndex", "(II)V"⟩
def RJ1 : String := "java/lang/StringLatin1"
def TJ1 : u_T := fun k => match k with
  | _ => ("", "", "", false)
def tyJ1 : Nat → FieldType := fun k => match k with
  | _ => .int
abbrev wsJ10 : List Cond := u_ws RJ1 TJ1 0
theorem nmJ1 : ∀ a, a < 0 → ∀ b, b < 0 → a ≠ b → (TJ1 a).2.1 ≠ (TJ1 b).2.1 := by decide +kernel
theorem tyJ1_ok : ∀ k, k < 0 → parseFieldDescriptor (TJ1 k).2.2.1 = some (tyJ1 k) := by decide +kernel
abbrev cJ1_charAt_3b067 : ByteArray := prog_25_method_2_code
def yJ1_charAt_3b067 : MethodName := ⟨RJ1, "charAt", "([BI)C"⟩
def RJ2 : String := "java/lang/StringUTF16"
def TJ2 : u_T := fun k => match k with
  | _ => ("", "", "", false)
def tyJ2 : Nat → FieldType := fun k => match k with
  | _ => .int
abbrev wsJ20 : List Cond := u_ws RJ2 TJ2 0
theorem nmJ2 : ∀ a, a < 0 → ∀ b, b < 0 → a ≠ b → (TJ2 a).2.1 ≠ (TJ2 b).2.1 := by decide +kernel
theorem tyJ2_ok : ∀ k, k < 0 → parseFieldDescriptor (TJ2 k).2.2.1 = some (tyJ2 k) := by decide +kernel
abbrev cJ2_getChar_3b067 : ByteArray := prog_26_method_5_code
def yJ2_getChar_3b067 : MethodName := ⟨RJ2, "getChar", "([BI)C"⟩
abbrev cJ2_length_9d52b : ByteArray := prog_26_method_6_code
def yJ2_length_9d52b : MethodName := ⟨RJ2, "length", "([B)I"⟩
abbrev cJ2_charAt_3b067 : ByteArray := prog_26_method_83_code
def yJ2_charAt_3b067 : MethodName := ⟨RJ2, "charAt", "([BI)C"⟩
abbrev cJ2_checkIndex_2214a : ByteArray := prog_26_method_91_code
def yJ2_checkIndex_2214a : MethodName := ⟨RJ2, "checkIndex", "(I[B)V"⟩
def RJ10 : String := "java/lang/System"
def TJ10 : u_T := fun k => match k with
  | _ => ("", "", "", false)
def tyJ10 : Nat → FieldType := fun k => match k with
  | _ => .int
abbrev wsJ100 : List Cond := u_ws RJ10 TJ10 0
theorem nmJ10 : ∀ a, a < 0 → ∀ b, b < 0 → a ≠ b → (TJ10 a).2.1 ≠ (TJ10 b).2.1 := by decide +kernel
theorem tyJ10_ok : ∀ k, k < 0 → parseFieldDescriptor (TJ10 k).2.2.1 = some (tyJ10 k) := by decide +kernel
def RJxfd54e : String := "java/lang/constant/Constable"
def TJxfd54e : u_T := fun k => match k with
  | _ => ("", "", "", false)
def tyJxfd54e : Nat → FieldType := fun k => match k with
  | _ => .int
abbrev wsJxfd54e0 : List Cond := u_ws RJxfd54e TJxfd54e 0
theorem nmJxfd54e : ∀ a, a < 0 → ∀ b, b < 0 → a ≠ b → (TJxfd54e a).2.1 ≠ (TJxfd54e b).2.1 := by decide +kernel
theorem tyJxfd54e_ok : ∀ k, k < 0 → parseFieldDescriptor (TJxfd54e k).2.2.1 = some (tyJxfd54e k) := by decide +kernel
def RJx3cf43 : String := "java/lang/constant/ConstantDesc"
def TJx3cf43 : u_T := fun k => match k with
  | _ => ("", "", "", false)
def tyJx3cf43 : Nat → FieldType := fun k => match k with
  | _ => .int
abbrev wsJx3cf430 : List Cond := u_ws RJx3cf43 TJx3cf43 0
theorem nmJx3cf43 : ∀ a, a < 0 → ∀ b, b < 0 → a ≠ b → (TJx3cf43 a).2.1 ≠ (TJx3cf43 b).2.1 := by decide +kernel
theorem tyJx3cf43_ok : ∀ k, k < 0 → parseFieldDescriptor (TJx3cf43 k).2.2.1 = some (tyJx3cf43 k) := by decide +kernel
def RJ3 : String := "jdk/internal/util/Preconditions"
def TJ3 : u_T := fun k => match k with
  | _ => ("", "", "", false)
def tyJ3 : Nat → FieldType := fun k => match k with
  | _ => .int
abbrev wsJ30 : List Cond := u_ws RJ3 TJ3 0
theorem nmJ3 : ∀ a, a < 0 → ∀ b, b < 0 → a ≠ b → (TJ3 a).2.1 ≠ (TJ3 b).2.1 := by decide +kernel
theorem tyJ3_ok : ∀ k, k < 0 → parseFieldDescriptor (TJ3 k).2.2.1 = some (tyJ3 k) := by decide +kernel
abbrev cJ3_checkIndex_8e157 : ByteArray := prog_32_method_11_code
def yJ3_checkIndex_8e157 : MethodName := ⟨RJ3, "checkIndex", "(IILjava/util/function/BiFunction;)I"⟩
def RL : String := "BlueBagLaw"
abbrev cL_coast : ByteArray := method_3_code
def yL_coast : MethodName := ⟨RL, "coast", "(LBlueBag;I[J)I"⟩
abbrev cL_count : ByteArray := method_4_code
def yL_count : MethodName := ⟨RL, "count", "(LBlueBag;I[J)I"⟩
abbrev cL_cell : ByteArray := method_5_code
def yL_cell : MethodName := ⟨RL, "cell", "(LBlueBag;II[J)I"⟩
abbrev cL_girl : ByteArray := method_6_code
def yL_girl : MethodName := ⟨RL, "girl", "(LBlueBag;II[J)I"⟩
abbrev cL_rest : ByteArray := method_7_code
def yL_rest : MethodName := ⟨RL, "rest", "(LBlueBag;IZ[J)I"⟩
abbrev cL_go : ByteArray := method_8_code
def yL_go : MethodName := ⟨RL, "go", "(LBlueBag;II[J)I"⟩
abbrev cL_peg : ByteArray := method_9_code
def yL_peg : MethodName := ⟨RL, "peg", "(LBlueBag;IZ[J)I"⟩
abbrev cL_then : ByteArray := method_10_code
def yL_then : MethodName := ⟨RL, "then", "(LBlueBag;II[J)I"⟩
abbrev cL_sky : ByteArray := method_11_code
def yL_sky : MethodName := ⟨RL, "sky", "(LBlueBag;II[J)I"⟩
abbrev cL_overdone : ByteArray := method_12_code
def yL_overdone : MethodName := ⟨RL, "overdone", "(LBlueBag;I[J)I"⟩
abbrev cL_first : ByteArray := method_13_code
def yL_first : MethodName := ⟨RL, "first", "(LBlueBag;I[J)I"⟩
abbrev cL_streak : ByteArray := method_14_code
def yL_streak : MethodName := ⟨RL, "streak", "(LBlueBag;I[J)I"⟩
abbrev cL_patch : ByteArray := method_15_code
def yL_patch : MethodName := ⟨RL, "patch", "(LBlueBag;II[J)I"⟩
abbrev cL_patches : ByteArray := method_16_code
def yL_patches : MethodName := ⟨RL, "patches", "(LBlueBag;I[J)I"⟩
abbrev cL_way : ByteArray := method_17_code
def yL_way : MethodName := ⟨RL, "way", "(LBlueBag;II[J)I"⟩
abbrev cL_toStand : ByteArray := method_18_code
def yL_toStand : MethodName := ⟨RL, "toStand", "(LBlueBag;II[J)I"⟩
abbrev cL_toSwish : ByteArray := method_19_code
def yL_toSwish : MethodName := ⟨RL, "toSwish", "(LBlueBag;II[J)I"⟩
abbrev cL_sent : ByteArray := method_20_code
def yL_sent : MethodName := ⟨RL, "sent", "(LBlueBag;II[J)I"⟩
abbrev cL_band : ByteArray := method_21_code
def yL_band : MethodName := ⟨RL, "band", "(LBlueBag;I[J)I"⟩
abbrev cL_steps : ByteArray := method_22_code
def yL_steps : MethodName := ⟨RL, "steps", "(LBlueBag;II[J)I"⟩
abbrev cL_nearest : ByteArray := method_23_code
def yL_nearest : MethodName := ⟨RL, "nearest", "(LBlueBag;I[J)I"⟩
abbrev cL_missed : ByteArray := method_24_code
def yL_missed : MethodName := ⟨RL, "missed", "(LBlueBag;I[J)I"⟩
abbrev cL_see : ByteArray := method_25_code
def yL_see : MethodName := ⟨RL, "see", "(LBlueBag;III[J)I"⟩
abbrev cL_skilled : ByteArray := method_26_code
def yL_skilled : MethodName := ⟨RL, "skilled", "(LBlueBag;I[J)I"⟩
abbrev cL_look : ByteArray := method_27_code
def yL_look : MethodName := ⟨RL, "look", "(LBlueBag;I[J)I"⟩
abbrev cL_game : ByteArray := method_28_code
def yL_game : MethodName := ⟨RL, "game", "(LBlueBag;III[J)I"⟩
abbrev cL_skies : ByteArray := method_29_code
def yL_skies : MethodName := ⟨RL, "skies", "(LBlueBag;III[J)I"⟩
abbrev cL_law : ByteArray := code
def yL_law : MethodName := ⟨RL, "law", "([I)Z"⟩
abbrev vwCl : List vw_C := [(RX0, TX0, 2), (RX1, TX1, 9), (RX2, TX2, 7), (RX3, TX3, 1), (RX4, TX4, 7), (RX5, TX5, 3), (RX6, TX6, 3), (RX7, TX7, 6), (RX8, TX8, 13), (RX9, TX9, 2), (RX10, TX10, 8), (RX11, TX11, 13), (RX12, TX12, 64)]
end
section
def FTT : List (List Nat) := [[1, 0], [0, 0, 0, 0, 0, 0, 1, 1, 1], [1, 1, 1, 1, 0, 0, 0], [0], [1, 1, 1, 1, 1, 1, 0], [1, 1, 0], [1, 2, 0], [1, 1, 1, 1, 0, 0], [1, 1, 1, 1, 1, 1, 1, 0, 0, 0, 0, 0, 0], [1, 0], [1, 0, 0, 0, 0, 0, 0, 0], [1, 1, 1, 1, 1, 1, 1, 1, 1, 1, 1, 0, 0], [1, 1, 1, 2, 0, 1, 1, 1, 1, 1, 1, 1, 1, 1, 1, 0, 0, 0, 0, 0, 0, 0, 0, 0, 0, 0, 0, 0, 1, 1, 1, 0, 0, 0, 0, 0, 0, 0, 1, 1, 1, 0, 1, 1, 1, 1, 1, 1, 1, 1, 1, 1, 0, 1, 0, 0, 0, 0, 1, 1, 1, 1, 1, 1]]
def nStr : Nat := 37
def strTab : List (String × Nat × String × List Int32) := [("BlueBag$CoastReader", 80, "sky", [115, 107, 121]), ("BlueBag$CoastReader", 89, "blue", [98, 108, 117, 101]), ("BlueBag$CoastReader", 94, "girl", [103, 105, 114, 108]), ("BlueBag$CoastReader", 100, "old", [111, 108, 100]), ("BlueBag$CoastReader", 102, "peg", [112, 101, 103]), ("BlueBag$CoastReader", 107, "knobs", [107, 110, 111, 98, 115]), ("BlueBag$CoastReader", 112, "rinse", [114, 105, 110, 115, 101]), ("BlueBag$CoastReader", 117, "bound", [98, 111, 117, 110, 100]), ("BlueBag$CoastReader", 122, "dyes", [100, 121, 101, 115]), ("BlueBag$RuleReader", 59, "not", [110, 111, 116]), ("BlueBag$RuleReader", 93, "blue", [98, 108, 117, 101]), ("BlueBag$RuleReader", 95, "beside", [98, 101, 115, 105, 100, 101]), ("BlueBag$RuleReader", 97, "row", [114, 111, 119]), ("BlueBag$RuleReader", 99, "day", [100, 97, 121]), ("BlueBag$RuleReader", 101, "skill", [115, 107, 105, 108, 108]), ("BlueBag$RuleReader", 103, "left", [108, 101, 102, 116]), ("BlueBag$RuleReader", 57, "and", [97, 110, 100]), ("BlueBag$RuleReader", 41, "or", [111, 114]), ("BlueBag$CoastReader", 127, "fades", [102, 97, 100, 101, 115]), ("BlueBagModel", 11, "girl", [103, 105, 114, 108]), ("BlueBagModel", 13, "old", [111, 108, 100]), ("BlueBagModel", 19, "blue", [98, 108, 117, 101]), ("BlueBagModel", 21, "beside", [98, 101, 115, 105, 100, 101]), ("BlueBagModel", 23, "row", [114, 111, 119]), ("BlueBagModel", 25, "day", [100, 97, 121]), ("BlueBagModel", 27, "skill", [115, 107, 105, 108, 108]), ("BlueBagModel", 29, "left", [108, 101, 102, 116]), ("BlueBagModel", 293, "sky", [115, 107, 121]), ("BlueBagModel", 295, "knobs", [107, 110, 111, 98, 115]), ("BlueBagModel", 296, "rinse", [114, 105, 110, 115, 101]), ("BlueBagModel", 298, "bound", [98, 111, 117, 110, 100]), ("BlueBagModel", 300, "dyes", [100, 121, 101, 115]), ("BlueBagModel", 302, "fades", [102, 97, 100, 101, 115]), ("BlueBagModel", 265, "not", [110, 111, 116]), ("BlueBagModel", 273, "and", [97, 110, 100]), ("BlueBagModel", 278, "or", [111, 114]), ("BlueBagModel", 313, "peg", [112, 101, 103])]
def strAt (k : Nat) : String × Nat × String × List Int32 := strTab.getD k ("", 0, "", [])
def strOwn (k : Nat) : String := (strAt k).1
def strIdx (k : Nat) : Nat := (strAt k).2.1
def strTx (k : Nat) : String := (strAt k).2.2.1
def strB (k : Nat) : List Int32 := (strAt k).2.2.2
end
section
abbrev Tb : Type := List (Nat × Instr × Nat)
def dck (c : ByteArray) (tb : Tb) : Bool := tb.all (fun e => decide (decode c e.1 = .ok e.2))
theorem dcg {c : ByteArray} {tb : Tb} (T : dck c tb = true) {i p n : Nat} {ins : Instr} (hi : tb[i]? = some (p, ins, n)) : decode c p = .ok (ins, n) := by
  have h := List.all_eq_true.mp T (p, ins, n) (List.mem_of_getElem? hi)
  exact of_decide_eq_true h
end
section
def tb_X9_init_0 : Tb := [(0, .aload_n 0, 1), (1, .invokespecial 3, 3), (4, .aload_n 0, 1), (5, .sipush 700, 3), (8, .newarray .byte, 2), (10, .putfield 9, 3), (13, .return_, 1)]
theorem tb_X9_init_0_ok : dck cX9_init tb_X9_init_0 = true := by decide +kernel
def tb_X5_init_0 : Tb := [(0, .aload_n 0, 1), (1, .invokespecial 3, 3), (4, .aload_n 0, 1), (5, .sipush 700, 3), (8, .newarray .int, 2), (10, .putfield 9, 3), (13, .aload_n 0, 1), (14, .bipush 40, 2), (16, .newarray .int, 2), (18, .putfield 15, 3), (21, .return_, 1)]
theorem tb_X5_init_0_ok : dck cX5_init tb_X5_init_0 = true := by decide +kernel
def tb_X1_cells_0 : Tb := [(0, .aload_n 0, 1), (1, .getfield 48, 3), (4, .aload_n 0, 1), (5, .getfield 51, 3), (8, .imul, 1), (9, .ireturn, 1)]
theorem tb_X1_cells_0_ok : dck cX1_cells tb_X1_cells_0 = true := by decide +kernel
def tb_X1_columnOf_0 : Tb := [(0, .aload_n 0, 1), (1, .getfield 48, 3), (4, .ifCond .le 12, 3), (7, .iload_n 1, 1), (8, .aload_n 0, 1), (9, .getfield 48, 3), (12, .irem, 1), (13, .goto 4, 3), (16, .iconst 0, 1), (17, .ireturn, 1)]
theorem tb_X1_columnOf_0_ok : dck cX1_columnOf tb_X1_columnOf_0 = true := by decide +kernel
def tb_X1_bitsBeside_0 : Tb := [(0, .iconst 0, 1), (1, .istore_n 2, 1), (2, .iload_n 1, 1), (3, .aload_n 0, 1), (4, .getfield 48, 3), (7, .if_icmp .lt 14, 3), (10, .iload_n 2, 1), (11, .iconst 1, 1), (12, .iload_n 1, 1), (13, .aload_n 0, 1), (14, .getfield 48, 3), (17, .isub, 1), (18, .ishl, 1), (19, .ior, 1), (20, .istore_n 2, 1), (21, .iload_n 1, 1), (22, .aload_n 0, 1), (23, .getfield 48, 3), (26, .iadd, 1), (27, .aload_n 0, 1), (28, .invokevirtual 54, 3), (31, .if_icmp .ge 14, 3), (34, .iload_n 2, 1), (35, .iconst 1, 1), (36, .iload_n 1, 1), (37, .aload_n 0, 1), (38, .getfield 48, 3), (41, .iadd, 1), (42, .ishl, 1), (43, .ior, 1), (44, .istore_n 2, 1), (45, .aload_n 0, 1), (46, .iload_n 1, 1), (47, .invokevirtual 62, 3), (50, .ifCond .le 11, 3), (53, .iload_n 2, 1), (54, .iconst 1, 1), (55, .iload_n 1, 1), (56, .iconst 1, 1), (57, .isub, 1)]
theorem tb_X1_bitsBeside_0_ok : dck cX1_bitsBeside tb_X1_bitsBeside_0 = true := by decide +kernel
def tb_X1_bitsBeside_1 : Tb := [(58, .ishl, 1), (59, .ior, 1), (60, .istore_n 2, 1), (61, .aload_n 0, 1), (62, .iload_n 1, 1), (63, .invokevirtual 62, 3), (66, .aload_n 0, 1), (67, .getfield 48, 3), (70, .iconst 1, 1), (71, .isub, 1), (72, .if_icmp .ge 11, 3), (75, .iload_n 2, 1), (76, .iconst 1, 1), (77, .iload_n 1, 1), (78, .iconst 1, 1), (79, .iadd, 1), (80, .ishl, 1), (81, .ior, 1), (82, .istore_n 2, 1), (83, .iload_n 2, 1), (84, .ireturn, 1)]
theorem tb_X1_bitsBeside_1_ok : dck cX1_bitsBeside tb_X1_bitsBeside_1 = true := by decide +kernel
def tb_X1_shape_0 : Tb := [(0, .aload_n 0, 1), (1, .iload_n 1, 1), (2, .putfield 48, 3), (5, .aload_n 0, 1), (6, .iload_n 2, 1), (7, .putfield 51, 3), (10, .iconst 0, 1), (11, .istore_n 3, 1), (12, .iload_n 3, 1), (13, .bipush 30, 2), (15, .if_icmp .ge 32, 3), (18, .aload_n 0, 1), (19, .getfield 9, 3), (22, .iload_n 3, 1), (23, .iload_n 3, 1), (24, .aload_n 0, 1), (25, .invokevirtual 54, 3), (28, .if_icmp .ge 11, 3), (31, .aload_n 0, 1), (32, .iload_n 3, 1), (33, .invokevirtual 58, 3), (36, .goto 4, 3), (39, .iconst 0, 1), (40, .iastore, 1), (41, .iinc 3 1, 3), (44, .goto (-32), 3), (47, .return_, 1)]
theorem tb_X1_shape_0_ok : dck cX1_shape tb_X1_shape_0 = true := by decide +kernel
def tb_X5_clear_0 : Tb := [(0, .aload_n 0, 1), (1, .iconst 0, 1), (2, .putfield 18, 3), (5, .return_, 1)]
theorem tb_X5_clear_0_ok : dck cX5_clear tb_X5_clear_0 = true := by decide +kernel
def tb_X1_begin_0 : Tb := [(0, .aload_n 0, 1), (1, .iconst 3, 1), (2, .iconst 3, 1), (3, .invokevirtual 28, 3), (6, .aload_n 0, 1), (7, .iconst 2, 1), (8, .putfield 32, 3), (11, .aload_n 0, 1), (12, .bipush 60, 2), (14, .putfield 36, 3), (17, .aload_n 0, 1), (18, .iconst 0, 1), (19, .putfield 39, 3), (22, .aload_n 0, 1), (23, .iconst 0, 1), (24, .putfield 42, 3), (27, .aload_n 0, 1), (28, .getfield 18, 3), (31, .invokevirtual 45, 3), (34, .aload_n 0, 1), (35, .getfield 22, 3), (38, .invokevirtual 45, 3), (41, .return_, 1)]
theorem tb_X1_begin_0_ok : dck cX1_begin tb_X1_begin_0 = true := by decide +kernel
def tb_X1_init_0 : Tb := [(0, .aload_n 0, 1), (1, .invokespecial 3, 3), (4, .aload_n 0, 1), (5, .bipush 30, 2), (7, .newarray .int, 2), (9, .putfield 9, 3), (12, .aload_n 0, 1), (13, .new 15, 3), (16, .dup, 1), (17, .invokespecial 17, 3), (20, .putfield 18, 3), (23, .aload_n 0, 1), (24, .new 15, 3), (27, .dup, 1), (28, .invokespecial 17, 3), (31, .putfield 22, 3), (34, .aload_n 0, 1), (35, .invokevirtual 25, 3), (38, .return_, 1)]
theorem tb_X1_init_0_ok : dck cX1_init tb_X1_init_0 = true := by decide +kernel
def tb_X8_begin_0 : Tb := [(0, .iconst 0, 1), (1, .istore_n 1, 1), (2, .iload_n 1, 1), (3, .bipush 30, 2), (5, .if_icmp .ge 16, 3), (8, .aload_n 0, 1), (9, .getfield 9, 3), (12, .iload_n 1, 1), (13, .iconst 0, 1), (14, .iastore, 1), (15, .iinc 1 1, 3), (18, .goto (-16), 3), (21, .iconst 0, 1), (22, .istore_n 1, 1), (23, .iload_n 1, 1), (24, .bipush 6, 2), (26, .if_icmp .ge 23, 3), (29, .aload_n 0, 1), (30, .getfield 21, 3), (33, .iload_n 1, 1), (34, .iconst 0, 1), (35, .iastore, 1), (36, .aload_n 0, 1), (37, .getfield 24, 3), (40, .iload_n 1, 1), (41, .iconst 0, 1), (42, .iastore, 1), (43, .iinc 1 1, 3), (46, .goto (-23), 3), (49, .aload_n 0, 1), (50, .iconst 0, 1), (51, .putfield 39, 3), (54, .aload_n 0, 1), (55, .iconst 0, 1), (56, .putfield 43, 3), (59, .aload_n 0, 1), (60, .bipush 20, 2), (62, .putfield 46, 3), (65, .aload_n 0, 1), (66, .iconst 0, 1)]
theorem tb_X8_begin_0_ok : dck cX8_begin tb_X8_begin_0 = true := by decide +kernel
def tb_X8_begin_1 : Tb := [(67, .putfield 49, 3), (70, .aload_n 0, 1), (71, .iconst 0, 1), (72, .putfield 52, 3), (75, .aload_n 0, 1), (76, .iconst 0, 1), (77, .putfield 55, 3), (80, .return_, 1)]
theorem tb_X8_begin_1_ok : dck cX8_begin tb_X8_begin_1 = true := by decide +kernel
def tb_X8_init_0 : Tb := [(0, .aload_n 0, 1), (1, .invokespecial 3, 3), (4, .aload_n 0, 1), (5, .bipush 30, 2), (7, .newarray .int, 2), (9, .putfield 9, 3), (12, .aload_n 0, 1), (13, .bipush 30, 2), (15, .newarray .int, 2), (17, .putfield 15, 3), (20, .aload_n 0, 1), (21, .bipush 30, 2), (23, .newarray .int, 2), (25, .putfield 18, 3), (28, .aload_n 0, 1), (29, .bipush 6, 2), (31, .newarray .int, 2), (33, .putfield 21, 3), (36, .aload_n 0, 1), (37, .bipush 6, 2), (39, .newarray .int, 2), (41, .putfield 24, 3), (44, .aload_n 0, 1), (45, .bipush 6, 2), (47, .newarray .int, 2), (49, .putfield 29, 3), (52, .aload_n 0, 1), (53, .aload_n 1, 1), (54, .putfield 32, 3), (57, .aload_n 0, 1), (58, .invokevirtual 36, 3), (61, .return_, 1)]
theorem tb_X8_init_0_ok : dck cX8_init tb_X8_init_0 = true := by decide +kernel
def tb_X10_init_0 : Tb := [(0, .aload_n 0, 1), (1, .invokespecial 3, 3), (4, .aload_n 0, 1), (5, .aload_n 1, 1), (6, .putfield 9, 3), (9, .return_, 1)]
theorem tb_X10_init_0_ok : dck cX10_init tb_X10_init_0 = true := by decide +kernel
def tb_X6_init_0 : Tb := [(0, .aload_n 0, 1), (1, .invokespecial 3, 3), (4, .aload_n 0, 1), (5, .aload_n 1, 1), (6, .putfield 9, 3), (9, .aload_n 0, 1), (10, .aload_n 2, 1), (11, .putfield 15, 3), (14, .return_, 1)]
theorem tb_X6_init_0_ok : dck cX6_init tb_X6_init_0 = true := by decide +kernel
def tb_X2_init_0 : Tb := [(0, .aload_n 0, 1), (1, .invokespecial 3, 3), (4, .aload_n 0, 1), (5, .new 9, 3), (8, .dup, 1), (9, .invokespecial 11, 3), (12, .putfield 12, 3), (15, .aload_n 0, 1), (16, .new 18, 3), (19, .dup, 1), (20, .aload_n 0, 1), (21, .getfield 12, 3), (24, .invokespecial 20, 3), (27, .putfield 23, 3), (30, .aload_n 0, 1), (31, .new 27, 3), (34, .dup, 1), (35, .aload_n 1, 1), (36, .invokespecial 29, 3), (39, .putfield 32, 3), (42, .aload_n 0, 1), (43, .new 36, 3), (46, .dup, 1), (47, .aload_n 0, 1), (48, .getfield 32, 3), (51, .aload_n 0, 1), (52, .getfield 12, 3), (55, .getfield 38, 3), (58, .invokespecial 42, 3), (61, .putfield 45, 3), (64, .return_, 1)]
theorem tb_X2_init_0_ok : dck cX2_init tb_X2_init_0 = true := by decide +kernel
def tb_X0_init_0 : Tb := [(0, .aload_n 0, 1), (1, .invokespecial 3, 3), (4, .aload_n 0, 1), (5, .sipush 1640, 3), (8, .newarray .int, 2), (10, .putfield 11, 3), (13, .return_, 1)]
theorem tb_X0_init_0_ok : dck cX0_init tb_X0_init_0 = true := by decide +kernel
def tb_X4_init_0 : Tb := [(0, .aload_n 0, 1), (1, .invokespecial 3, 3), (4, .aload_n 0, 1), (5, .new 9, 3), (8, .dup, 1), (9, .invokespecial 11, 3), (12, .putfield 12, 3), (15, .aload_n 0, 1), (16, .bipush 8, 2), (18, .newarray .int, 2), (20, .putfield 18, 3), (23, .aload_n 0, 1), (24, .bipush 8, 2), (26, .newarray .int, 2), (28, .putfield 22, 3), (31, .aload_n 0, 1), (32, .bipush 8, 2), (34, .newarray .int, 2), (36, .putfield 25, 3), (39, .aload_n 0, 1), (40, .iconst 3, 1), (41, .newarray .int, 2), (43, .putfield 28, 3), (46, .aload_n 0, 1), (47, .new 31, 3), (50, .dup, 1), (51, .aload_n 1, 1), (52, .invokespecial 33, 3), (55, .putfield 36, 3), (58, .return_, 1)]
theorem tb_X4_init_0_ok : dck cX4_init tb_X4_init_0 = true := by decide +kernel
def tb_X7_init_0 : Tb := [(0, .aload_n 0, 1), (1, .invokespecial 3, 3), (4, .aload_n 0, 1), (5, .bipush 6, 2), (7, .newarray .int, 2), (9, .putfield 9, 3), (12, .aload_n 0, 1), (13, .bipush 6, 2), (15, .newarray .int, 2), (17, .putfield 15, 3), (20, .aload_n 0, 1), (21, .bipush 6, 2), (23, .newarray .int, 2), (25, .putfield 18, 3), (28, .aload_n 0, 1), (29, .aload_n 1, 1), (30, .putfield 21, 3), (33, .return_, 1)]
theorem tb_X7_init_0_ok : dck cX7_init tb_X7_init_0 = true := by decide +kernel
def tb_X3_init_0 : Tb := [(0, .aload_n 0, 1), (1, .invokespecial 1, 3), (4, .return_, 1)]
theorem tb_X3_init_0_ok : dck cX3_init tb_X3_init_0 = true := by decide +kernel
def tb_X11_init_0 : Tb := [(0, .aload_n 0, 1), (1, .invokespecial 1, 3), (4, .aload_n 0, 1), (5, .new 7, 3), (8, .dup, 1), (9, .invokespecial 9, 3), (12, .putfield 10, 3), (15, .aload_n 0, 1), (16, .new 16, 3), (19, .dup, 1), (20, .invokespecial 18, 3), (23, .putfield 19, 3), (26, .aload_n 0, 1), (27, .new 23, 3), (30, .dup, 1), (31, .aload_n 0, 1), (32, .getfield 10, 3), (35, .invokespecial 25, 3), (38, .putfield 28, 3), (41, .aload_n 0, 1), (42, .new 32, 3), (45, .dup, 1), (46, .aload_n 0, 1), (47, .getfield 19, 3), (50, .invokespecial 34, 3), (53, .putfield 37, 3), (56, .aload_n 0, 1), (57, .new 32, 3), (60, .dup, 1), (61, .aload_n 0, 1), (62, .getfield 19, 3), (65, .invokespecial 34, 3), (68, .putfield 41, 3), (71, .aload_n 0, 1), (72, .new 44, 3), (75, .dup, 1), (76, .aload_n 0, 1), (77, .getfield 19, 3), (80, .invokespecial 46, 3), (83, .putfield 47, 3)]
theorem tb_X11_init_0_ok : dck cX11_init tb_X11_init_0 = true := by decide +kernel
def tb_X11_init_1 : Tb := [(86, .aload_n 0, 1), (87, .new 51, 3), (90, .dup, 1), (91, .aload_n 0, 1), (92, .getfield 37, 3), (95, .getfield 53, 3), (98, .invokespecial 56, 3), (101, .putfield 59, 3), (104, .aload_n 0, 1), (105, .new 63, 3), (108, .dup, 1), (109, .invokespecial 65, 3), (112, .putfield 66, 3), (115, .aload_n 0, 1), (116, .bipush 30, 2), (118, .newarray .long, 2), (120, .putfield 70, 3), (123, .aload_n 0, 1), (124, .bipush 30, 2), (126, .newarray .long, 2), (128, .putfield 74, 3), (131, .aload_n 0, 1), (132, .bipush 8, 2), (134, .newarray .int, 2), (136, .putfield 77, 3), (139, .aload_n 0, 1), (140, .iconst (-1), 1), (141, .putfield 81, 3), (144, .return_, 1)]
theorem tb_X11_init_1_ok : dck cX11_init tb_X11_init_1 = true := by decide +kernel
def tb_X8_isResting_0 : Tb := [(0, .aload_n 0, 1), (1, .getfield 43, 3), (4, .iload_n 1, 1), (5, .ishr, 1), (6, .iconst 1, 1), (7, .iand, 1), (8, .ifCond .eq 7, 3), (11, .iconst 1, 1), (12, .goto 4, 3), (15, .iconst 0, 1), (16, .ireturn, 1)]
theorem tb_X8_isResting_0_ok : dck cX8_isResting tb_X8_isResting_0 = true := by decide +kernel
def tb_X5_isTold_0 : Tb := [(0, .aload_n 0, 1), (1, .getfield 18, 3), (4, .ifCond .le 7, 3), (7, .iconst 1, 1), (8, .goto 4, 3), (11, .iconst 0, 1), (12, .ireturn, 1)]
theorem tb_X5_isTold_0_ok : dck cX5_isTold tb_X5_isTold_0 = true := by decide +kernel
def tb_X8_skillOf_0 : Tb := [(0, .iload_n 1, 1), (1, .ifCond .lt 18, 3), (4, .iload_n 1, 1), (5, .bipush 6, 2), (7, .if_icmp .ge 12, 3), (10, .aload_n 0, 1), (11, .getfield 24, 3), (14, .iload_n 1, 1), (15, .iaload, 1), (16, .goto 4, 3), (19, .iconst 0, 1), (20, .ireturn, 1)]
theorem tb_X8_skillOf_0_ok : dck cX8_skillOf tb_X8_skillOf_0 = true := by decide +kernel
def tb_X8_spotOf_0 : Tb := [(0, .iload_n 1, 1), (1, .ifCond .lt 18, 3), (4, .iload_n 1, 1), (5, .bipush 6, 2), (7, .if_icmp .ge 12, 3), (10, .aload_n 0, 1), (11, .getfield 21, 3), (14, .iload_n 1, 1), (15, .iaload, 1), (16, .goto 4, 3), (19, .iconst 0, 1), (20, .ireturn, 1)]
theorem tb_X8_spotOf_0_ok : dck cX8_spotOf tb_X8_spotOf_0 = true := by decide +kernel
def tb_X1_besideBits_0 : Tb := [(0, .iload_n 1, 1), (1, .ifCond .lt 18, 3), (4, .iload_n 1, 1), (5, .bipush 30, 2), (7, .if_icmp .ge 12, 3), (10, .aload_n 0, 1), (11, .getfield 9, 3), (14, .iload_n 1, 1), (15, .iaload, 1), (16, .goto 4, 3), (19, .iconst 0, 1), (20, .ireturn, 1)]
theorem tb_X1_besideBits_0_ok : dck cX1_besideBits tb_X1_besideBits_0 = true := by decide +kernel
def tb_X8_blueOf_0 : Tb := [(0, .iload_n 1, 1), (1, .ifCond .lt 18, 3), (4, .iload_n 1, 1), (5, .bipush 30, 2), (7, .if_icmp .ge 12, 3), (10, .aload_n 0, 1), (11, .getfield 9, 3), (14, .iload_n 1, 1), (15, .iaload, 1), (16, .goto 4, 3), (19, .iconst 0, 1), (20, .ireturn, 1)]
theorem tb_X8_blueOf_0_ok : dck cX8_blueOf tb_X8_blueOf_0 = true := by decide +kernel
def tb_X1_rowOf_0 : Tb := [(0, .aload_n 0, 1), (1, .getfield 48, 3), (4, .ifCond .le 12, 3), (7, .iload_n 1, 1), (8, .aload_n 0, 1), (9, .getfield 48, 3), (12, .idiv, 1), (13, .goto 4, 3), (16, .iconst 0, 1), (17, .ireturn, 1)]
theorem tb_X1_rowOf_0_ok : dck cX1_rowOf tb_X1_rowOf_0 = true := by decide +kernel
def tb_X8_setValues_0 : Tb := [(0, .aload_n 0, 1), (1, .getfield 32, 3), (4, .iload_n 1, 1), (5, .invokevirtual 144, 3), (8, .istore_n 2, 1), (9, .iconst 0, 1), (10, .istore_n 3, 1), (11, .iconst 0, 1), (12, .istore 4, 2), (14, .iload 4, 2), (16, .bipush 30, 2), (18, .if_icmp .ge 28, 3), (21, .iload_n 2, 1), (22, .iload 4, 2), (24, .ishr, 1), (25, .iconst 1, 1), (26, .iand, 1), (27, .ifCond .eq 13, 3), (30, .iload_n 3, 1), (31, .aload_n 0, 1), (32, .getfield 9, 3), (35, .iload 4, 2), (37, .iaload, 1), (38, .iadd, 1), (39, .istore_n 3, 1), (40, .iinc 4 1, 3), (43, .goto (-29), 3), (46, .aload_n 0, 1), (47, .getfield 29, 3), (50, .iconst 0, 1), (51, .aload_n 0, 1), (52, .iload_n 1, 1), (53, .invokevirtual 118, 3), (56, .iastore, 1), (57, .aload_n 0, 1), (58, .getfield 29, 3), (61, .iconst 1, 1), (62, .iload_n 3, 1), (63, .iastore, 1), (64, .aload_n 0, 1)]
theorem tb_X8_setValues_0_ok : dck cX8_setValues tb_X8_setValues_0 = true := by decide +kernel
def tb_X8_setValues_1 : Tb := [(65, .getfield 29, 3), (68, .iconst 2, 1), (69, .aload_n 0, 1), (70, .getfield 32, 3), (73, .iload_n 1, 1), (74, .invokevirtual 160, 3), (77, .iastore, 1), (78, .aload_n 0, 1), (79, .getfield 29, 3), (82, .iconst 3, 1), (83, .aload_n 0, 1), (84, .getfield 52, 3), (87, .iastore, 1), (88, .return_, 1)]
theorem tb_X8_setValues_1_ok : dck cX8_setValues tb_X8_setValues_1 = true := by decide +kernel
def tb_X5_joined_0 : Tb := [(0, .iload_n 0, 1), (1, .tableswitch 109 (-18) (-11) #[105, 101, 97, 86, 75, 109, 61, 47], 47), (48, .iload_n 1, 1), (49, .ifCond .ne 7, 3), (52, .iload_n 2, 1), (53, .ifCond .eq 7, 3), (56, .iconst 1, 1), (57, .goto 4, 3), (60, .iconst 0, 1), (61, .ireturn, 1), (62, .iload_n 1, 1), (63, .ifCond .eq 11, 3), (66, .iload_n 2, 1), (67, .ifCond .eq 7, 3), (70, .iconst 1, 1), (71, .goto 4, 3), (74, .iconst 0, 1), (75, .ireturn, 1), (76, .iload_n 1, 1), (77, .iload_n 2, 1), (78, .if_icmp .ge 7, 3), (81, .iconst 1, 1), (82, .goto 4, 3), (85, .iconst 0, 1), (86, .ireturn, 1), (87, .iload_n 1, 1), (88, .iload_n 2, 1), (89, .if_icmp .ne 7, 3), (92, .iconst 1, 1), (93, .goto 4, 3), (96, .iconst 0, 1), (97, .ireturn, 1), (98, .iload_n 1, 1), (99, .iload_n 2, 1), (100, .iadd, 1), (101, .ireturn, 1), (102, .iload_n 1, 1), (103, .iload_n 2, 1), (104, .isub, 1), (105, .ireturn, 1)]
theorem tb_X5_joined_0_ok : dck cX5_joined tb_X5_joined_0 = true := by decide +kernel
def tb_X5_joined_1 : Tb := [(106, .iload_n 1, 1), (107, .iload_n 2, 1), (108, .imul, 1), (109, .ireturn, 1), (110, .iload_n 2, 1), (111, .ifCond .ne 7, 3), (114, .iconst 0, 1), (115, .goto 6, 3), (118, .iload_n 1, 1), (119, .iload_n 2, 1), (120, .idiv, 1), (121, .ireturn, 1)]
theorem tb_X5_joined_1_ok : dck cX5_joined tb_X5_joined_1 = true := by decide +kernel
def tb_X5_worth_0 : Tb := [(0, .iconst 0, 1), (1, .istore_n 2, 1), (2, .iconst 0, 1), (3, .istore_n 3, 1), (4, .iload_n 3, 1), (5, .aload_n 0, 1), (6, .getfield 18, 3), (9, .if_icmp .ge 152, 3), (12, .iload_n 3, 1), (13, .aload_n 0, 1), (14, .getfield 9, 3), (17, .arraylength, 1), (18, .if_icmp .ge 143, 3), (21, .aload_n 0, 1), (22, .getfield 9, 3), (25, .iload_n 3, 1), (26, .iaload, 1), (27, .istore 4, 2), (29, .iload 4, 2), (31, .bipush (-6), 2), (33, .if_icmp .lt 48, 3), (36, .iconst (-1), 1), (37, .iload 4, 2), (39, .isub, 1), (40, .istore 5, 2), (42, .iload_n 2, 1), (43, .bipush 40, 2), (45, .if_icmp .ge 33, 3), (48, .aload_n 0, 1), (49, .getfield 15, 3), (52, .iload_n 2, 1), (53, .iload 5, 2), (55, .ifCond .lt 17, 3), (58, .iload 5, 2), (60, .aload_n 1, 1), (61, .arraylength, 1), (62, .if_icmp .ge 10, 3), (65, .aload_n 1, 1), (66, .iload 5, 2), (68, .iaload, 1)]
theorem tb_X5_worth_0_ok : dck cX5_worth tb_X5_worth_0 = true := by decide +kernel
def tb_X5_worth_1 : Tb := [(69, .goto 5, 3), (72, .iload 4, 2), (74, .iastore, 1), (75, .iinc 2 1, 3), (78, .goto 77, 3), (81, .iload 4, 2), (83, .bipush (-13), 2), (85, .if_icmp .ne 35, 3), (88, .iload_n 2, 1), (89, .iconst 1, 1), (90, .if_icmp .lt 65, 3), (93, .aload_n 0, 1), (94, .getfield 15, 3), (97, .iload_n 2, 1), (98, .iconst 1, 1), (99, .isub, 1), (100, .aload_n 0, 1), (101, .getfield 15, 3), (104, .iload_n 2, 1), (105, .iconst 1, 1), (106, .isub, 1), (107, .iaload, 1), (108, .ifCond .ne 7, 3), (111, .iconst 1, 1), (112, .goto 4, 3), (115, .iconst 0, 1), (116, .iastore, 1), (117, .goto 38, 3), (120, .iload_n 2, 1), (121, .iconst 2, 1), (122, .if_icmp .lt 33, 3), (125, .iinc 2 (-1), 3), (128, .aload_n 0, 1), (129, .getfield 15, 3), (132, .iload_n 2, 1), (133, .iconst 1, 1), (134, .isub, 1), (135, .iload 4, 2), (137, .aload_n 0, 1), (138, .getfield 15, 3)]
theorem tb_X5_worth_1_ok : dck cX5_worth tb_X5_worth_1 = true := by decide +kernel
def tb_X5_worth_2 : Tb := [(141, .iload_n 2, 1), (142, .iconst 1, 1), (143, .isub, 1), (144, .iaload, 1), (145, .aload_n 0, 1), (146, .getfield 15, 3), (149, .iload_n 2, 1), (150, .iaload, 1), (151, .invokestatic 32, 3), (154, .iastore, 1), (155, .iinc 3 1, 3), (158, .goto (-154), 3), (161, .iload_n 2, 1), (162, .iconst 1, 1), (163, .if_icmp .lt 14, 3), (166, .aload_n 0, 1), (167, .getfield 15, 3), (170, .iload_n 2, 1), (171, .iconst 1, 1), (172, .isub, 1), (173, .iaload, 1), (174, .goto 4, 3), (177, .iconst 0, 1), (178, .ireturn, 1)]
theorem tb_X5_worth_2_ok : dck cX5_worth tb_X5_worth_2 = true := by decide +kernel
def tb_X8_dyeOf_0 : Tb := [(0, .aload_n 0, 1), (1, .getfield 32, 3), (4, .getfield 154, 3), (7, .invokevirtual 114, 3), (10, .ifCond .ne 13, 3), (13, .iconst 2, 1), (14, .aload_n 0, 1), (15, .iload_n 1, 1), (16, .invokevirtual 157, 3), (19, .imul, 1), (20, .iconst 3, 1), (21, .iadd, 1), (22, .ireturn, 1), (23, .aload_n 0, 1), (24, .aload_n 0, 1), (25, .iload_n 1, 1), (26, .invokevirtual 132, 3), (29, .invokevirtual 121, 3), (32, .aload_n 0, 1), (33, .getfield 29, 3), (36, .iconst 4, 1), (37, .aload_n 0, 1), (38, .iload_n 1, 1), (39, .invokevirtual 157, 3), (42, .iastore, 1), (43, .aload_n 0, 1), (44, .getfield 29, 3), (47, .iconst 5, 1), (48, .iload_n 2, 1), (49, .iastore, 1), (50, .iconst 0, 1), (51, .bipush 30, 2), (53, .aload_n 0, 1), (54, .getfield 32, 3), (57, .getfield 154, 3), (60, .aload_n 0, 1), (61, .getfield 29, 3), (64, .invokevirtual 125, 3), (67, .invokestatic 64, 3), (70, .invokestatic 92, 3)]
theorem tb_X8_dyeOf_0_ok : dck cX8_dyeOf tb_X8_dyeOf_0 = true := by decide +kernel
def tb_X8_dyeOf_1 : Tb := [(73, .ireturn, 1)]
theorem tb_X8_dyeOf_1_ok : dck cX8_dyeOf tb_X8_dyeOf_1 = true := by decide +kernel
def tb_X8_isPegged_0 : Tb := [(0, .aload_n 0, 1), (1, .getfield 39, 3), (4, .iload_n 1, 1), (5, .ishr, 1), (6, .iconst 1, 1), (7, .iand, 1), (8, .ifCond .eq 7, 3), (11, .iconst 1, 1), (12, .goto 4, 3), (15, .iconst 0, 1), (16, .ireturn, 1)]
theorem tb_X8_isPegged_0_ok : dck cX8_isPegged tb_X8_isPegged_0 = true := by decide +kernel
def tb_X8_addBlue_0 : Tb := [(0, .iload_n 1, 1), (1, .ifCond .lt 36, 3), (4, .iload_n 1, 1), (5, .bipush 30, 2), (7, .if_icmp .ge 30, 3), (10, .aload_n 0, 1), (11, .iload_n 1, 1), (12, .invokevirtual 70, 3), (15, .ifCond .ne 22, 3), (18, .aload_n 0, 1), (19, .getfield 9, 3), (22, .iload_n 1, 1), (23, .bipush 99, 2), (25, .aload_n 0, 1), (26, .getfield 9, 3), (29, .iload_n 1, 1), (30, .iaload, 1), (31, .iload_n 2, 1), (32, .iadd, 1), (33, .invokestatic 64, 3), (36, .iastore, 1), (37, .return_, 1)]
theorem tb_X8_addBlue_0_ok : dck cX8_addBlue tb_X8_addBlue_0 = true := by decide +kernel
def tb_X1_isOld_0 : Tb := [(0, .aload_n 0, 1), (1, .getfield 42, 3), (4, .iload_n 1, 1), (5, .ishr, 1), (6, .iconst 1, 1), (7, .iand, 1), (8, .ifCond .eq 7, 3), (11, .iconst 1, 1), (12, .goto 4, 3), (15, .iconst 0, 1), (16, .ireturn, 1)]
theorem tb_X1_isOld_0_ok : dck cX1_isOld tb_X1_isOld_0 = true := by decide +kernel
def tb_X8_drip_0 : Tb := [(0, .iload_n 2, 1), (1, .istore_n 3, 1), (2, .iconst 0, 1), (3, .istore 4, 2), (5, .iload 4, 2), (7, .aload_n 0, 1), (8, .getfield 32, 3), (11, .invokevirtual 147, 3), (14, .if_icmp .ge 46, 3), (17, .iload 4, 2), (19, .iload_n 1, 1), (20, .if_icmp .le 34, 3), (23, .aload_n 0, 1), (24, .getfield 32, 3), (27, .iload 4, 2), (29, .invokevirtual 151, 3), (32, .aload_n 0, 1), (33, .getfield 32, 3), (36, .iload_n 1, 1), (37, .invokevirtual 151, 3), (40, .if_icmp .ne 14, 3), (43, .aload_n 0, 1), (44, .iload 4, 2), (46, .iload_n 3, 1), (47, .invokevirtual 135, 3), (50, .iload_n 3, 1), (51, .iconst 2, 1), (52, .idiv, 1), (53, .istore_n 3, 1), (54, .iinc 4 1, 3), (57, .goto (-52), 3), (60, .return_, 1)]
theorem tb_X8_drip_0_ok : dck cX8_drip tb_X8_drip_0 = true := by decide +kernel
def tb_X8_swish_0 : Tb := [(0, .aload_n 0, 1), (1, .iload_n 1, 1), (2, .iload_n 2, 1), (3, .invokevirtual 129, 3), (6, .istore_n 3, 1), (7, .aload_n 0, 1), (8, .iload_n 1, 1), (9, .invokevirtual 132, 3), (12, .istore 4, 2), (14, .aload_n 0, 1), (15, .iload 4, 2), (17, .iload_n 3, 1), (18, .invokevirtual 135, 3), (21, .aload_n 0, 1), (22, .getfield 32, 3), (25, .iload_n 1, 1), (26, .invokevirtual 138, 3), (29, .ifCond .eq 15, 3), (32, .aload_n 0, 1), (33, .iload 4, 2), (35, .iload_n 3, 1), (36, .iconst 2, 1), (37, .idiv, 1), (38, .invokevirtual 141, 3), (41, .goto 54, 3), (44, .aload_n 0, 1), (45, .getfield 32, 3), (48, .iload 4, 2), (50, .invokevirtual 144, 3), (53, .istore 5, 2), (55, .iconst 0, 1), (56, .istore 6, 2), (58, .iload 6, 2), (60, .aload_n 0, 1), (61, .getfield 32, 3), (64, .invokevirtual 147, 3), (67, .if_icmp .ge 28, 3), (70, .iload 5, 2), (72, .iload 6, 2), (74, .ishr, 1)]
theorem tb_X8_swish_0_ok : dck cX8_swish tb_X8_swish_0 = true := by decide +kernel
def tb_X8_swish_1 : Tb := [(75, .iconst 1, 1), (76, .iand, 1), (77, .ifCond .eq 12, 3), (80, .aload_n 0, 1), (81, .iload 6, 2), (83, .iload_n 3, 1), (84, .iconst 2, 1), (85, .idiv, 1), (86, .invokevirtual 135, 3), (89, .iinc 6 1, 3), (92, .goto (-34), 3), (95, .return_, 1)]
theorem tb_X8_swish_1_ok : dck cX8_swish tb_X8_swish_1 = true := by decide +kernel
def tb_J6_bitCount_0f7a4_0 : Tb := [(0, .iload_n 0, 1), (1, .iload_n 0, 1), (2, .iconst 1, 1), (3, .iushr, 1), (4, .ldc_w 265, 3), (7, .iand, 1), (8, .isub, 1), (9, .istore_n 0, 1), (10, .iload_n 0, 1), (11, .ldc_w 266, 3), (14, .iand, 1), (15, .iload_n 0, 1), (16, .iconst 2, 1), (17, .iushr, 1), (18, .ldc_w 266, 3), (21, .iand, 1), (22, .iadd, 1), (23, .istore_n 0, 1), (24, .iload_n 0, 1), (25, .iload_n 0, 1), (26, .iconst 4, 1), (27, .iushr, 1), (28, .iadd, 1), (29, .ldc_w 267, 3), (32, .iand, 1), (33, .istore_n 0, 1), (34, .iload_n 0, 1), (35, .iload_n 0, 1), (36, .bipush 8, 2), (38, .iushr, 1), (39, .iadd, 1), (40, .istore_n 0, 1), (41, .iload_n 0, 1), (42, .iload_n 0, 1), (43, .bipush 16, 2), (45, .iushr, 1), (46, .iadd, 1), (47, .istore_n 0, 1), (48, .iload_n 0, 1), (49, .bipush 63, 2)]
theorem tb_J6_bitCount_0f7a4_0_ok : dck cJ6_bitCount_0f7a4 tb_J6_bitCount_0f7a4_0 = true := by decide +kernel
def tb_J6_bitCount_0f7a4_1 : Tb := [(51, .iand, 1), (52, .ireturn, 1)]
theorem tb_J6_bitCount_0f7a4_1_ok : dck cJ6_bitCount_0f7a4 tb_J6_bitCount_0f7a4_1 = true := by decide +kernel
def tb_X8_markOverdone_0 : Tb := [(0, .aload_n 0, 1), (1, .iconst 0, 1), (2, .putfield 55, 3), (5, .iconst 0, 1), (6, .istore_n 1, 1), (7, .iload_n 1, 1), (8, .bipush 30, 2), (10, .if_icmp .ge 37, 3), (13, .aload_n 0, 1), (14, .getfield 9, 3), (17, .iload_n 1, 1), (18, .iaload, 1), (19, .aload_n 0, 1), (20, .getfield 32, 3), (23, .getfield 98, 3), (26, .if_icmp .le 15, 3), (29, .aload_n 0, 1), (30, .dup, 1), (31, .getfield 55, 3), (34, .iconst 1, 1), (35, .iload_n 1, 1), (36, .ishl, 1), (37, .ior, 1), (38, .putfield 55, 3), (41, .iinc 1 1, 3), (44, .goto (-37), 3), (47, .aload_n 0, 1), (48, .sipush 9999, 3), (51, .aload_n 0, 1), (52, .getfield 49, 3), (55, .aload_n 0, 1), (56, .getfield 55, 3), (59, .invokestatic 101, 3), (62, .iadd, 1), (63, .invokestatic 64, 3), (66, .putfield 49, 3), (69, .return_, 1)]
theorem tb_X8_markOverdone_0_ok : dck cX8_markOverdone tb_X8_markOverdone_0 = true := by decide +kernel
def tb_X8_fadeOf_0 : Tb := [(0, .aload_n 0, 1), (1, .getfield 32, 3), (4, .getfield 110, 3), (7, .invokevirtual 114, 3), (10, .ifCond .ne 11, 3), (13, .aload_n 0, 1), (14, .iload_n 1, 1), (15, .invokevirtual 118, 3), (18, .iconst 5, 1), (19, .idiv, 1), (20, .ireturn, 1), (21, .aload_n 0, 1), (22, .iload_n 1, 1), (23, .invokevirtual 118, 3), (26, .ifCond .ne 5, 3), (29, .iconst 0, 1), (30, .ireturn, 1), (31, .aload_n 0, 1), (32, .iload_n 1, 1), (33, .invokevirtual 121, 3), (36, .iconst 0, 1), (37, .aload_n 0, 1), (38, .iload_n 1, 1), (39, .invokevirtual 118, 3), (42, .aload_n 0, 1), (43, .getfield 32, 3), (46, .getfield 110, 3), (49, .aload_n 0, 1), (50, .getfield 29, 3), (53, .invokevirtual 125, 3), (56, .invokestatic 64, 3), (59, .invokestatic 92, 3), (62, .ireturn, 1)]
theorem tb_X8_fadeOf_0_ok : dck cX8_fadeOf tb_X8_fadeOf_0 = true := by decide +kernel
def tb_X8_fade_0 : Tb := [(0, .iconst 0, 1), (1, .istore_n 1, 1), (2, .iload_n 1, 1), (3, .bipush 30, 2), (5, .if_icmp .ge 20, 3), (8, .aload_n 0, 1), (9, .getfield 18, 3), (12, .iload_n 1, 1), (13, .aload_n 0, 1), (14, .iload_n 1, 1), (15, .invokevirtual 107, 3), (18, .iastore, 1), (19, .iinc 1 1, 3), (22, .goto (-20), 3), (25, .iconst 0, 1), (26, .istore_n 1, 1), (27, .iload_n 1, 1), (28, .bipush 30, 2), (30, .if_icmp .ge 24, 3), (33, .aload_n 0, 1), (34, .getfield 9, 3), (37, .iload_n 1, 1), (38, .dup2, 1), (39, .iaload, 1), (40, .aload_n 0, 1), (41, .getfield 18, 3), (44, .iload_n 1, 1), (45, .iaload, 1), (46, .isub, 1), (47, .iastore, 1), (48, .iinc 1 1, 3), (51, .goto (-24), 3), (54, .return_, 1)]
theorem tb_X8_fade_0_ok : dck cX8_fade tb_X8_fade_0 = true := by decide +kernel
def tb_X8_passDay_0 : Tb := [(0, .aload_n 0, 1), (1, .getfield 9, 3), (4, .iconst 0, 1), (5, .aload_n 0, 1), (6, .getfield 15, 3), (9, .iconst 0, 1), (10, .bipush 30, 2), (12, .invokestatic 58, 3), (15, .iconst 0, 1), (16, .istore_n 1, 1), (17, .iload_n 1, 1), (18, .aload_n 0, 1), (19, .getfield 32, 3), (22, .getfield 74, 3), (25, .if_icmp .ge 43, 3), (28, .aload_n 0, 1), (29, .iload_n 1, 1), (30, .invokevirtual 79, 3), (33, .ifCond .ne 29, 3), (36, .aload_n 0, 1), (37, .getfield 46, 3), (40, .ifCond .le 22, 3), (43, .aload_n 0, 1), (44, .dup, 1), (45, .getfield 46, 3), (48, .iconst 1, 1), (49, .isub, 1), (50, .putfield 46, 3), (53, .aload_n 0, 1), (54, .iload_n 1, 1), (55, .aload_n 0, 1), (56, .getfield 46, 3), (59, .invokevirtual 82, 3), (62, .iinc 1 1, 3), (65, .goto (-48), 3), (68, .aload_n 0, 1), (69, .invokevirtual 86, 3), (72, .iconst 0, 1), (73, .istore_n 1, 1), (74, .iload_n 1, 1)]
theorem tb_X8_passDay_0_ok : dck cX8_passDay tb_X8_passDay_0 = true := by decide +kernel
def tb_X8_passDay_1 : Tb := [(75, .bipush 30, 2), (77, .if_icmp .ge 33, 3), (80, .aload_n 0, 1), (81, .getfield 9, 3), (84, .iload_n 1, 1), (85, .iconst 0, 1), (86, .aload_n 0, 1), (87, .getfield 9, 3), (90, .iload_n 1, 1), (91, .iaload, 1), (92, .aload_n 0, 1), (93, .getfield 32, 3), (96, .getfield 89, 3), (99, .isub, 1), (100, .invokestatic 92, 3), (103, .iastore, 1), (104, .iinc 1 1, 3), (107, .goto (-33), 3), (110, .aload_n 0, 1), (111, .invokevirtual 95, 3), (114, .aload_n 0, 1), (115, .dup, 1), (116, .getfield 52, 3), (119, .iconst 1, 1), (120, .iadd, 1), (121, .putfield 52, 3), (124, .return_, 1)]
theorem tb_X8_passDay_1_ok : dck cX8_passDay tb_X8_passDay_1 = true := by decide +kernel
def tb_X8_addKnobs_0 : Tb := [(0, .aload_n 0, 1), (1, .bipush 99, 2), (3, .aload_n 0, 1), (4, .getfield 46, 3), (7, .iload_n 1, 1), (8, .iadd, 1), (9, .invokestatic 64, 3), (12, .putfield 46, 3), (15, .return_, 1)]
theorem tb_X8_addKnobs_0_ok : dck cX8_addKnobs tb_X8_addKnobs_0 = true := by decide +kernel
def tb_X8_copyFrom_0 : Tb := [(0, .aload_n 1, 1), (1, .getfield 9, 3), (4, .iconst 0, 1), (5, .aload_n 0, 1), (6, .getfield 9, 3), (9, .iconst 0, 1), (10, .bipush 30, 2), (12, .invokestatic 58, 3), (15, .aload_n 1, 1), (16, .getfield 21, 3), (19, .iconst 0, 1), (20, .aload_n 0, 1), (21, .getfield 21, 3), (24, .iconst 0, 1), (25, .bipush 6, 2), (27, .invokestatic 58, 3), (30, .aload_n 1, 1), (31, .getfield 24, 3), (34, .iconst 0, 1), (35, .aload_n 0, 1), (36, .getfield 24, 3), (39, .iconst 0, 1), (40, .bipush 6, 2), (42, .invokestatic 58, 3), (45, .aload_n 0, 1), (46, .aload_n 1, 1), (47, .getfield 39, 3), (50, .putfield 39, 3), (53, .aload_n 0, 1), (54, .aload_n 1, 1), (55, .getfield 43, 3), (58, .putfield 43, 3), (61, .aload_n 0, 1), (62, .aload_n 1, 1), (63, .getfield 46, 3), (66, .putfield 46, 3), (69, .aload_n 0, 1), (70, .aload_n 1, 1), (71, .getfield 49, 3), (74, .putfield 49, 3)]
theorem tb_X8_copyFrom_0_ok : dck cX8_copyFrom tb_X8_copyFrom_0 = true := by decide +kernel
def tb_X8_copyFrom_1 : Tb := [(77, .aload_n 0, 1), (78, .aload_n 1, 1), (79, .getfield 52, 3), (82, .putfield 52, 3), (85, .aload_n 0, 1), (86, .aload_n 1, 1), (87, .getfield 55, 3), (90, .putfield 55, 3), (93, .return_, 1)]
theorem tb_X8_copyFrom_1_ok : dck cX8_copyFrom tb_X8_copyFrom_1 = true := by decide +kernel
def tb_X11_lookAhead_0 : Tb := [(0, .aload_n 0, 1), (1, .getfield 47, 3), (4, .aload_n 0, 1), (5, .getfield 37, 3), (8, .getfield 53, 3), (11, .invokevirtual 343, 3), (14, .iconst 0, 1), (15, .istore_n 2, 1), (16, .iload_n 2, 1), (17, .iload_n 1, 1), (18, .if_icmp .ge 16, 3), (21, .aload_n 0, 1), (22, .getfield 47, 3), (25, .invokevirtual 221, 3), (28, .iinc 2 1, 3), (31, .goto (-15), 3), (34, .return_, 1)]
theorem tb_X11_lookAhead_0_ok : dck cX11_lookAhead tb_X11_lookAhead_0 = true := by decide +kernel
def tb_X8_setSpot_0 : Tb := [(0, .iload_n 1, 1), (1, .ifCond .lt 16, 3), (4, .iload_n 1, 1), (5, .bipush 6, 2), (7, .if_icmp .ge 10, 3), (10, .aload_n 0, 1), (11, .getfield 21, 3), (14, .iload_n 1, 1), (15, .iload_n 2, 1), (16, .iastore, 1), (17, .return_, 1)]
theorem tb_X8_setSpot_0_ok : dck cX8_setSpot tb_X8_setSpot_0 = true := by decide +kernel
end
section
def tb_X8_allBlue_0 : Tb := [(0, .iconst 0, 1), (1, .istore_n 1, 1), (2, .iconst 0, 1), (3, .istore_n 2, 1), (4, .iload_n 2, 1), (5, .bipush 30, 2), (7, .if_icmp .ge 18, 3), (10, .iload_n 1, 1), (11, .aload_n 0, 1), (12, .getfield 9, 3), (15, .iload_n 2, 1), (16, .iaload, 1), (17, .iadd, 1), (18, .istore_n 1, 1), (19, .iinc 2 1, 3), (22, .goto (-18), 3), (25, .iload_n 1, 1), (26, .ireturn, 1)]
theorem tb_X8_allBlue_0_ok : dck cX8_allBlue tb_X8_allBlue_0 = true := by decide +kernel
def tb_X11_needWithin_0 : Tb := [(0, .iload_n 1, 1), (1, .iload_n 2, 1), (2, .if_icmp .lt 8, 3), (5, .iload_n 1, 1), (6, .iload_n 3, 1), (7, .if_icmp .le 11, 3), (10, .new 96, 3), (13, .dup, 1), (14, .invokespecial 98, 3), (17, .athrow, 1), (18, .return_, 1)]
theorem tb_X11_needWithin_0_ok : dck cX11_needWithin tb_X11_needWithin_0 = true := by decide +kernel
def tb_X11_needWhat_0 : Tb := [(0, .iload_n 1, 1), (1, .ifCond .lt 8, 3), (4, .iload_n 1, 1), (5, .iload_n 2, 1), (6, .if_icmp .le 11, 3), (9, .new 176, 3), (12, .dup, 1), (13, .invokespecial 178, 3), (16, .athrow, 1), (17, .return_, 1)]
theorem tb_X11_needWhat_0_ok : dck cX11_needWhat tb_X11_needWhat_0 = true := by decide +kernel
def tb_X3_draw_0 : Tb := [(0, .aload_n 0, 1), (1, .aload_n 0, 1), (2, .getfield 7, 3), (5, .ldc 13, 2), (7, .imul, 1), (8, .sipush 12345, 3), (11, .iadd, 1), (12, .putfield 7, 3), (15, .aload_n 0, 1), (16, .getfield 7, 3), (19, .bipush 16, 2), (21, .iushr, 1), (22, .sipush 32767, 3), (25, .iand, 1), (26, .istore_n 2, 1), (27, .iload_n 1, 1), (28, .ifCond .le 9, 3), (31, .iload_n 2, 1), (32, .iload_n 1, 1), (33, .irem, 1), (34, .goto 4, 3), (37, .iconst 0, 1), (38, .ireturn, 1)]
theorem tb_X3_draw_0_ok : dck cX3_draw tb_X3_draw_0 = true := by decide +kernel
def tb_X11_drawAhead_0 : Tb := [(0, .aload_n 0, 1), (1, .getfield 66, 3), (4, .iconst 5, 1), (5, .invokevirtual 360, 3), (8, .tableswitch 115 0 2 #[28, 54, 104], 28), (36, .aload_n 0, 1), (37, .getfield 47, 3), (40, .aload_n 0, 1), (41, .getfield 66, 3), (44, .aload_n 0, 1), (45, .getfield 19, 3), (48, .invokevirtual 128, 3), (51, .invokevirtual 360, 3), (54, .bipush 20, 2), (56, .invokevirtual 363, 3), (59, .goto 64, 3), (62, .aload_n 0, 1), (63, .getfield 19, 3), (66, .getfield 134, 3), (69, .ifCond .le 54, 3), (72, .aload_n 0, 1), (73, .getfield 66, 3), (76, .aload_n 0, 1), (77, .getfield 19, 3), (80, .getfield 134, 3), (83, .invokevirtual 360, 3), (86, .istore_n 1, 1), (87, .aload_n 0, 1), (88, .getfield 47, 3), (91, .iload_n 1, 1), (92, .aload_n 0, 1), (93, .getfield 66, 3), (96, .aload_n 0, 1), (97, .getfield 19, 3), (100, .invokevirtual 128, 3), (103, .invokevirtual 360, 3), (106, .invokevirtual 231, 3), (109, .goto 14, 3), (112, .aload_n 0, 1), (113, .getfield 47, 3)]
theorem tb_X11_drawAhead_0_ok : dck cX11_drawAhead tb_X11_drawAhead_0 = true := by decide +kernel
def tb_X11_drawAhead_1 : Tb := [(116, .iconst 5, 1), (117, .invokevirtual 235, 3), (120, .goto 3, 3), (123, .return_, 1)]
theorem tb_X11_drawAhead_1_ok : dck cX11_drawAhead tb_X11_drawAhead_1 = true := by decide +kernel
def tb_X11_skies_0 : Tb := [(0, .aload_n 0, 1), (1, .iload_n 3, 1), (2, .iconst 2, 1), (3, .invokevirtual 255, 3), (6, .aload_n 0, 1), (7, .iload_n 2, 1), (8, .iconst 0, 1), (9, .bipush 40, 2), (11, .invokevirtual 248, 3), (14, .aload_n 0, 1), (15, .iconst 0, 1), (16, .invokevirtual 252, 3), (19, .aload_n 0, 1), (20, .getfield 66, 3), (23, .iload_n 1, 1), (24, .putfield 334, 3), (27, .iconst 0, 1), (28, .istore 4, 2), (30, .iload 4, 2), (32, .iload_n 2, 1), (33, .if_icmp .ge 20, 3), (36, .aload_n 0, 1), (37, .invokevirtual 337, 3), (40, .aload_n 0, 1), (41, .getfield 47, 3), (44, .invokevirtual 221, 3), (47, .iinc 4 1, 3), (50, .goto (-20), 3), (53, .iload_n 3, 1), (54, .lookupswitch 53 #[(0, 26), (1, 45)], 26), (80, .aload_n 0, 1), (81, .getfield 47, 3), (84, .getfield 149, 3), (87, .aload_n 0, 1), (88, .getfield 37, 3), (91, .getfield 53, 3), (94, .getfield 149, 3), (97, .isub, 1), (98, .ireturn, 1), (99, .aload_n 0, 1)]
theorem tb_X11_skies_0_ok : dck cX11_skies tb_X11_skies_0 = true := by decide +kernel
def tb_X11_skies_1 : Tb := [(100, .getfield 47, 3), (103, .invokevirtual 158, 3), (106, .ireturn, 1), (107, .aload_n 0, 1), (108, .getfield 47, 3), (111, .getfield 140, 3), (114, .ireturn, 1)]
theorem tb_X11_skies_1_ok : dck cX11_skies tb_X11_skies_1 = true := by decide +kernel
def tb_X12_begin_0 : Tb := [(0, .aload_n 0, 1), (1, .getfield 40, 3), (4, .iload_n 1, 1), (5, .iconst 3, 1), (6, .iastore, 1), (7, .aload_n 0, 1), (8, .getfield 40, 3), (11, .iload_n 1, 1), (12, .iconst 1, 1), (13, .iadd, 1), (14, .iconst 3, 1), (15, .iastore, 1), (16, .aload_n 0, 1), (17, .getfield 40, 3), (20, .iload_n 1, 1), (21, .iconst 2, 1), (22, .iadd, 1), (23, .iconst 0, 1), (24, .iastore, 1), (25, .aload_n 0, 1), (26, .getfield 40, 3), (29, .iload_n 1, 1), (30, .iconst 3, 1), (31, .iadd, 1), (32, .bipush 20, 2), (34, .iastore, 1), (35, .aload_n 0, 1), (36, .getfield 40, 3), (39, .iload_n 1, 1), (40, .iconst 4, 1), (41, .iadd, 1), (42, .iconst 2, 1), (43, .iastore, 1), (44, .aload_n 0, 1), (45, .getfield 40, 3), (48, .iload_n 1, 1), (49, .iconst 5, 1), (50, .iadd, 1), (51, .bipush 60, 2), (53, .iastore, 1)]
theorem tb_X12_begin_0_ok : dck cX12_begin tb_X12_begin_0 = true := by decide +kernel
def tb_X12_begin_1 : Tb := [(54, .bipush 6, 2), (56, .istore_n 2, 1), (57, .iload_n 2, 1), (58, .bipush 9, 2), (60, .if_icmp .ge 18, 3), (63, .aload_n 0, 1), (64, .getfield 40, 3), (67, .iload_n 1, 1), (68, .iload_n 2, 1), (69, .iadd, 1), (70, .iconst 0, 1), (71, .iastore, 1), (72, .iinc 2 1, 3), (75, .goto (-18), 3), (78, .return_, 1)]
theorem tb_X12_begin_1_ok : dck cX12_begin tb_X12_begin_1 = true := by decide +kernel
def tb_X12_init_0 : Tb := [(0, .aload_n 0, 1), (1, .invokespecial 3, 3), (4, .aload_n 0, 1), (5, .iconst 2, 1), (6, .anewarray 9, 3), (9, .dup, 1), (10, .iconst 0, 1), (11, .ldc 11, 2), (13, .aastore, 1), (14, .dup, 1), (15, .iconst 1, 1), (16, .ldc 13, 2), (18, .aastore, 1), (19, .putfield 15, 3), (22, .aload_n 0, 1), (23, .bipush 6, 2), (25, .anewarray 9, 3), (28, .dup, 1), (29, .iconst 0, 1), (30, .ldc 19, 2), (32, .aastore, 1), (33, .dup, 1), (34, .iconst 1, 1), (35, .ldc 21, 2), (37, .aastore, 1), (38, .dup, 1), (39, .iconst 2, 1), (40, .ldc 23, 2), (42, .aastore, 1), (43, .dup, 1), (44, .iconst 3, 1), (45, .ldc 25, 2), (47, .aastore, 1), (48, .dup, 1), (49, .iconst 4, 1), (50, .ldc 27, 2), (52, .aastore, 1), (53, .dup, 1), (54, .iconst 5, 1), (55, .ldc 29, 2)]
theorem tb_X12_init_0_ok : dck cX12_init tb_X12_init_0 = true := by decide +kernel
def tb_X12_init_1 : Tb := [(57, .aastore, 1), (58, .putfield 31, 3), (61, .aload_n 0, 1), (62, .iconst 4, 1), (63, .anewarray 9, 3), (66, .dup, 1), (67, .iconst 0, 1), (68, .ldc 19, 2), (70, .aastore, 1), (71, .dup, 1), (72, .iconst 1, 1), (73, .ldc 21, 2), (75, .aastore, 1), (76, .dup, 1), (77, .iconst 2, 1), (78, .ldc 23, 2), (80, .aastore, 1), (81, .dup, 1), (82, .iconst 3, 1), (83, .ldc 25, 2), (85, .aastore, 1), (86, .putfield 34, 3), (89, .aload_n 0, 1), (90, .aload_n 0, 1), (91, .getfield 31, 3), (94, .putfield 37, 3), (97, .aload_n 0, 1), (98, .bipush 18, 2), (100, .newarray .int, 2), (102, .putfield 40, 3), (105, .aload_n 0, 1), (106, .bipush 60, 2), (108, .newarray .int, 2), (110, .putfield 44, 3), (113, .aload_n 0, 1), (114, .bipush 12, 2), (116, .newarray .int, 2), (118, .putfield 47, 3), (121, .aload_n 0, 1), (122, .bipush 12, 2)]
theorem tb_X12_init_1_ok : dck cX12_init tb_X12_init_1 = true := by decide +kernel
def tb_X12_init_2 : Tb := [(124, .newarray .int, 2), (126, .putfield 50, 3), (129, .aload_n 0, 1), (130, .bipush 12, 2), (132, .newarray .int, 2), (134, .putfield 53, 3), (137, .aload_n 0, 1), (138, .sipush 1400, 3), (141, .newarray .int, 2), (143, .putfield 56, 3), (146, .aload_n 0, 1), (147, .sipush 1400, 3), (150, .newarray .int, 2), (152, .putfield 59, 3), (155, .aload_n 0, 1), (156, .iconst 3, 1), (157, .newarray .int, 2), (159, .putfield 62, 3), (162, .aload_n 0, 1), (163, .bipush 6, 2), (165, .newarray .int, 2), (167, .putfield 65, 3), (170, .aload_n 0, 1), (171, .sipush 700, 3), (174, .newarray .int, 2), (176, .putfield 68, 3), (179, .aload_n 0, 1), (180, .iconst (-1), 1), (181, .putfield 71, 3), (184, .aload_n 0, 1), (185, .bipush 30, 2), (187, .newarray .int, 2), (189, .putfield 75, 3), (192, .aload_n 0, 1), (193, .bipush 6, 2), (195, .newarray .int, 2), (197, .putfield 77, 3), (200, .aload_n 0, 1), (201, .sipush 1640, 3), (204, .newarray .int, 2)]
theorem tb_X12_init_2_ok : dck cX12_init tb_X12_init_2 = true := by decide +kernel
def tb_X12_init_3 : Tb := [(206, .putfield 80, 3), (209, .aload_n 0, 1), (210, .bipush 6, 2), (212, .newarray .int, 2), (214, .putfield 83, 3), (217, .aload_n 0, 1), (218, .bipush 64, 2), (220, .newarray .int, 2), (222, .putfield 86, 3), (225, .aload_n 0, 1), (226, .bipush 30, 2), (228, .newarray .int, 2), (230, .putfield 89, 3), (233, .aload_n 0, 1), (234, .bipush 41, 2), (236, .newarray .int, 2), (238, .putfield 92, 3), (241, .aload_n 0, 1), (242, .bipush 30, 2), (244, .newarray .int, 2), (246, .putfield 95, 3), (249, .aload_n 0, 1), (250, .sipush 448, 3), (253, .newarray .int, 2), (255, .putfield 98, 3), (258, .aload_n 0, 1), (259, .bipush 6, 2), (261, .newarray .int, 2), (263, .putfield 101, 3), (266, .aload_n 0, 1), (267, .bipush 8, 2), (269, .newarray .int, 2), (271, .putfield 104, 3), (274, .aload_n 0, 1), (275, .bipush 8, 2), (277, .newarray .int, 2), (279, .putfield 107, 3), (282, .aload_n 0, 1), (283, .bipush 8, 2), (285, .newarray .int, 2)]
theorem tb_X12_init_3_ok : dck cX12_init tb_X12_init_3 = true := by decide +kernel
def tb_X12_init_4 : Tb := [(287, .putfield 110, 3), (290, .aload_n 0, 1), (291, .bipush 41, 2), (293, .newarray .int, 2), (295, .putfield 113, 3), (298, .aload_n 0, 1), (299, .bipush 60, 2), (301, .newarray .int, 2), (303, .putfield 116, 3), (306, .aload_n 0, 1), (307, .sipush 1800, 3), (310, .newarray .int, 2), (312, .putfield 119, 3), (315, .aload_n 0, 1), (316, .bipush 8, 2), (318, .newarray .int, 2), (320, .putfield 122, 3), (323, .aload_n 0, 1), (324, .bipush 41, 2), (326, .newarray .int, 2), (328, .putfield 125, 3), (331, .aload_n 0, 1), (332, .sipush 1640, 3), (335, .newarray .int, 2), (337, .putfield 128, 3), (340, .aload_n 0, 1), (341, .bipush 8, 2), (343, .newarray .int, 2), (345, .putfield 131, 3), (348, .aload_n 0, 1), (349, .bipush 8, 2), (351, .newarray .int, 2), (353, .putfield 134, 3), (356, .aload_n 0, 1), (357, .bipush 8, 2), (359, .newarray .int, 2), (361, .putfield 137, 3), (364, .aload_n 0, 1), (365, .iconst 3, 1), (366, .newarray .int, 2)]
theorem tb_X12_init_4_ok : dck cX12_init tb_X12_init_4 = true := by decide +kernel
def tb_X12_init_5 : Tb := [(368, .putfield 140, 3), (371, .aload_n 0, 1), (372, .iconst 0, 1), (373, .invokevirtual 143, 3), (376, .aload_n 0, 1), (377, .bipush 20, 2), (379, .putfield 147, 3), (382, .return_, 1)]
theorem tb_X12_init_5_ok : dck cX12_init tb_X12_init_5 = true := by decide +kernel
end
section
/-! ===== my own judgement over the kit's: memory by positions ===== -/
abbrev Mem : Type := (Nat → Nat → Int32) × (Nat → Nat → Int64) × (Nat → Nat → Nat)
abbrev Lay : Type := (Nat → Nat × Nat) × (Nat → Nat → Nat) × Nat
def kd (y : Lay) (r : Nat) : Nat × Nat := if 1 ≤ r ∧ r ≤ y.2.2 then y.1 r else (9, 0)
def u2 {α : Type} (f : Nat → Nat → α) (p k : Nat) (v : α) : Nat → Nat → α := fun a b => if a = p ∧ b = k then v else f a b
def wI (M : Mem) (p k : Nat) (v : Int32) : Mem := (u2 M.1 p k v, M.2)
def wL (M : Mem) (p k : Nat) (v : Int64) : Mem := (M.1, u2 M.2.1 p k v, M.2.2)
def wR (M : Mem) (p k : Nat) (v : Nat) : Mem := (M.1, M.2.1, u2 M.2.2 p k v)
def cpI (M : Mem) (a b sp dp n : Nat) : Mem := (fun q => if q = b then va_cpy (M.1 a) (M.1 b) sp dp n else M.1 q, M.2)
-- functional combinators
def gd {β : Type} (P : Prop) [Decidable P] (k : Option β) : Option β := if P then k else none
def gK {β : Type} (y : Lay) (r : Nat) (c : Nat × Nat) (k : Option β) : Option β := if kd y r = c then k else none
def gA {β : Type} (y : Lay) (r t : Nat) (i : Int32) (k : Option β) : Option β := if (kd y r).1 = t ∧ ¬ (i < 0 ∨ (kd y r).2 ≤ i.toNatClampNeg) then k else none
def gT {β : Type} (y : Lay) (r t : Nat) (k : Option β) : Option β := if (kd y r).1 = t then k else none
def gN {β : Type} (r : Nat) (k : Option β) : Option β := if r = 0 then none else k
def br {β : Type} (P : Prop) [Decidable P] (a b : Option β) : Option β := if P then a else b
def lt {α : Type} {β : Type} (e : α) (k : α → Option β) : Option β := k e
def jn {κ : Type} {β : Type} (K : κ) (b : κ → Option β) : Option β := b K
def fixN {κ : Type} (bot : κ) (F : κ → κ) : Nat → κ
  | 0 => bot
  | n + 1 => F (fixN bot F n)
def c0 {β : Type} (x : Option (Int32 × Mem)) (k : Int32 → Mem → Option β) : Option β := match x with
  | some (r, M) => k r M
  | none => none
def c1 {α : Type} (x : Option (Nat × Int32 × Mem)) (k : Int32 → Mem → Option (Nat × Int32 × Mem)) (_ : α) : Option (Nat × Int32 × Mem) := match x with
  | some (0, r, M) => k r M
  | some (e + 1, r, M) => some (e + 1, r, M)
  | none => none
def ci {β : Type} (x : Option (Lay × Mem)) (k : Lay → Mem → Option β) : Option β := match x with
  | some (y, M) => k y M
  | none => none
theorem gd_e {β : Type} {P : Prop} [Decidable P] {k : Option β} {o : β} (h : gd P k = some o) : P ∧ k = some o := by
  unfold gd at h; split at h
  · exact ⟨by assumption, h⟩
  · cases h
theorem gK_e {β : Type} {y : Lay} {r : Nat} {c : Nat × Nat} {k : Option β} {o : β} (h : gK y r c k = some o) : kd y r = c ∧ k = some o := by
  unfold gK at h; split at h
  · exact ⟨by assumption, h⟩
  · cases h
theorem gA_e {β : Type} {y : Lay} {r t : Nat} {i : Int32} {k : Option β} {o : β} (h : gA y r t i k = some o) : ((kd y r).1 = t ∧ ¬ (i < 0 ∨ (kd y r).2 ≤ i.toNatClampNeg)) ∧ k = some o := by
  unfold gA at h; split at h
  · exact ⟨by assumption, h⟩
  · cases h
theorem gT_e {β : Type} {y : Lay} {r t : Nat} {k : Option β} {o : β} (h : gT y r t k = some o) : (kd y r).1 = t ∧ k = some o := by
  unfold gT at h; split at h
  · exact ⟨by assumption, h⟩
  · cases h
theorem gN_e {β : Type} {r : Nat} {k : Option β} {o : β} (h : gN r k = some o) : ¬ r = 0 ∧ k = some o := by
  unfold gN at h; split at h
  · cases h
  · exact ⟨by assumption, h⟩
theorem br_e {β : Type} {P : Prop} [Decidable P] {a b : Option β} {o : β} (h : br P a b = some o) : (P → a = some o) ∧ (¬ P → b = some o) := by
  unfold br at h; split at h
  · exact ⟨fun _ => h, fun n => absurd (by assumption) n⟩
  · exact ⟨fun n => absurd n (by assumption), fun _ => h⟩
theorem lt_e {α β : Type} {e v : α} {k : α → Option β} {o : β} (ev : v = e) (h : lt e k = some o) : k v = some o := by subst ev; exact h
theorem jn_e {κ β : Type} {K : κ} {b : κ → Option β} {o : β} (h : jn K b = some o) : ∃ j : κ, j = K ∧ b j = some o := ⟨K, rfl, h⟩
theorem c0_e {β : Type} {x : Option (Int32 × Mem)} {k : Int32 → Mem → Option β} {o : β} (h : c0 x k = some o) : ∃ r M, x = some (r, M) ∧ k r M = some o := by
  unfold c0 at h; split at h
  · exact ⟨_, _, rfl, h⟩
  · cases h
theorem ci_e {β : Type} {x : Option (Lay × Mem)} {k : Lay → Mem → Option β} {o : β} (h : ci x k = some o) : ∃ y M, x = some (y, M) ∧ k y M = some o := by
  unfold ci at h; split at h
  · exact ⟨_, _, rfl, h⟩
  · cases h
theorem c1_e {α : Type} {x : Option (Nat × Int32 × Mem)} {k : Int32 → Mem → Option (Nat × Int32 × Mem)} {u : α} {o : Nat × Int32 × Mem} (h : c1 x k u = some o) : (∃ r M, x = some (0, r, M) ∧ k r M = some o) ∨ (x = some o ∧ o.1 ≠ 0) := by
  unfold c1 at h; split at h
  · exact Or.inl ⟨_, _, rfl, h⟩
  · cases h; exact Or.inr ⟨rfl, Nat.succ_ne_zero _⟩
  · cases h
-- the world of a memory
abbrev GX : Type := State × va_G × (Nat → ClassId) × (Nat → Nat) × Nat × Nat × (Nat → Int32)
def bs (g : GX) : Nat := g.1.heap.size
def ad (g : GX) (p : Nat) : Nat := if p < 1000 then bs g + (p - 1) else if p = 1999 then g.2.2.2.2.1 else g.2.2.2.1 (p - 1000)
def va (g : GX) : Value → Value
  | .ref p => .ref (ad g p)
  | v => v
def rfv (r : Nat) : Value := if r = 0 then .null else .ref r
def ado (g : GX) (r : Nat) : Option Nat := if r = 0 then none else some (ad g r)
def ftag (ci k : Nat) : Nat := (FTT.getD ci []).getD k 0
def nfl (ci : Nat) : Nat := (FTT.getD ci []).length
def slot (g : GX) (y : Lay) (M : Mem) (p ci k : Nat) : Value := if ftag ci k = 0 then .int (M.1 p k) else if ftag ci k = 1 then va g (rfv (y.2.1 p k)) else va g (rfv (M.2.2 p k))
def entK (g : GX) (y : Lay) (M : Mem) (p : Nat) (c : Nat × Nat) : va_E :=
  if c.1 = 0 then .inr (c.2, (List.range (nfl c.2)).map (slot g y M p c.2))
  else if c.1 = 1 then .inl (g.2.2.1 0, c.2, .inl (M.1 p))
  else if c.1 = 2 then .inl (g.2.2.1 1, c.2, .inl (M.1 p))
  else if c.1 = 3 then .inl (g.2.2.1 2, c.2, .inr (.inl (M.2.1 p)))
  else .inl (g.2.2.1 3, c.2, .inr (.inr (.inr (.inr (fun j => ado g (y.2.1 p j))))))
def wld (g : GX) (y : Lay) (M : Mem) : va_W := (List.range y.2.2).map (fun i => (bs g + i, entK g y M (i + 1) (y.1 (i + 1))))
def tysG (g : GX) : List (ClassId × FieldType) := [(g.2.2.1 0, .int), (g.2.2.1 1, .byte), (g.2.2.1 2, .long), (g.2.2.1 3, .object "java/lang/String")]
def RelH (g : GX) (y : Lay) (M : Mem) (H : Heap) : Prop := va_P g.2.1 vwCl (wld g y M) H ∧ y.2.2 < 1000
def Ag (g : GX) : Nat → Prop := fun q => bs g ≤ q
theorem wld_get {g : GX} {y : Lay} {M : Mem} {r : Nat} {c : Nat × Nat} (h : kd y r = c) (hc : c.1 ≠ 9) (hn : y.2.2 < 1000) : (wld g y M)[r - 1]? = some (ad g r, entK g y M r c) := by
  unfold kd at h
  split at h
  · rename_i hr
    obtain ⟨h1, h2⟩ := hr
    have e : r - 1 + 1 = r := by omega
    unfold wld ad
    rw [List.getElem?_map, List.getElem?_range (by omega), if_pos (by omega)]
    simp only [Option.map_some, e, h]
  · exact absurd (by rw [← h]) hc
theorem wld_D {g : GX} {y : Lay} {M : Mem} : va_D (Ag g) (wld g y M) := by
  have key : ∀ (k : Nat) (q : Nat × va_E), (wld g y M)[k]? = some q → q.1 = bs g + k := by
    intro k q h
    unfold wld at h
    rw [List.getElem?_map] at h
    cases hk : (List.range y.2.2)[k]? with
    | none => rw [hk] at h; cases h
    | some i =>
      rw [hk] at h
      cases h
      have := List.getElem?_eq_some_iff.mp hk
      obtain ⟨h1, h2⟩ := this
      simp at h2
      show bs g + i = bs g + k
      omega
  refine ⟨fun i j p q h1 h2 e => ?_, fun k q h => ?_⟩
  · rw [key i p h1, key j q h2] at e; omega
  · rw [key k q h]; show bs g ≤ bs g + k; omega
theorem wld_len {g : GX} {y : Lay} {M : Mem} : (wld g y M).length = y.2.2 := by simp [wld]
/-- a change of one cell -/
theorem wld_set {g : GX} {y : Lay} {M M' : Mem} {r : Nat} {c : Nat × Nat} {e' : va_E} (h : kd y r = c) (hc : c.1 ≠ 9) (hn : y.2.2 < 1000) (he : entK g y M' r c = e') (ho : ∀ p, p ≠ r → ∀ c', entK g y M' p c' = entK g y M p c') : (wld g y M).set (r - 1) (ad g r, e') = wld g y M' := by
  have hr : 1 ≤ r ∧ r ≤ y.2.2 ∧ y.1 r = c := by
    unfold kd at h
    split at h
    · rename_i hr; exact ⟨hr.1, hr.2, h⟩
    · exact absurd (by rw [← h]) hc
  obtain ⟨h1, h2, h3⟩ := hr
  apply List.ext_getElem?
  intro k
  rw [List.getElem?_set]
  by_cases hk : r - 1 = k
  · subst hk
    rw [if_pos rfl, if_pos (by rw [wld_len]; omega), wld_get (M := M') h hc hn, he]
  · rw [if_neg hk]
    unfold wld
    rw [List.getElem?_map, List.getElem?_map]
    cases hx : (List.range y.2.2)[k]? with
    | none => rfl
    | some i =>
      have hi : i = k := by
        obtain ⟨h1, h2⟩ := List.getElem?_eq_some_iff.mp hx
        simp at h2; omega
      simp only [Option.map_some]
      rw [ho (i + 1) (by omega)]
-- locals
def lvl (g : GX) : Nat → List (Option Value) → List (Nat × Value)
  | _, [] => []
  | k, none :: r => lvl g (k + 1) r
  | k, some v :: r => (k, va g v) :: lvl g (k + 1) r
theorem mem_lvl {g : GX} {q : Nat × Value} : ∀ {L : List (Option Value)} {b : Nat}, q ∈ lvl g b L ↔ ∃ j v, q = (b + j, va g v) ∧ L[j]? = some (some v) := by
  intro L
  induction L with
  | nil => intro b; simp [lvl]
  | cons a L ih =>
    intro b
    cases a with
    | none =>
      simp only [lvl]
      rw [ih]
      constructor
      · rintro ⟨j, v, h1, h2⟩
        exact ⟨j + 1, v, by rw [h1]; congr 1; omega, by simpa using h2⟩
      · rintro ⟨j, v, h1, h2⟩
        cases j with
        | zero => simp at h2
        | succ j => exact ⟨j, v, by rw [h1]; congr 1; omega, by simpa using h2⟩
    | some w =>
      simp only [lvl, List.mem_cons]
      rw [ih]
      constructor
      · rintro (h | ⟨j, v, h1, h2⟩)
        · exact ⟨0, w, by rw [h]; rfl, by simp⟩
        · exact ⟨j + 1, v, by rw [h1]; congr 1; omega, by simpa using h2⟩
      · rintro ⟨j, v, h1, h2⟩
        cases j with
        | zero => left; simp at h2; rw [h1, h2]; rfl
        | succ j => right; exact ⟨j, v, by rw [h1]; congr 1; omega, by simpa using h2⟩
def LV (g : GX) (nL : Nat) (ls : Array Slot) (L : List (Option Value)) : Prop := lv_has ls nL (lvl g 0 L) ∧ L.length = nL
theorem LV.get {g : GX} {nL : Nat} {ls : Array Slot} {L : List (Option Value)} (h : LV g nL ls L) {i : Nat} {v : Value} (hi : L[i]? = some (some v)) : ls[i]? = some (.val (va g v)) := by
  have := h.1.2.2 (i, va g v) (mem_lvl.mpr ⟨i, v, by simp, hi⟩)
  exact this
/-- no long stands just ahead of place i -/
def nlo (L : List (Option Value)) (i : Nat) : Bool := match i with
  | 0 => true
  | j + 1 => match L[j]? with
    | some (some (.long _)) => false
    | some (some (.double _)) => false
    | _ => true
theorem va_cat {g : GX} (v : Value) : (va g v).category = v.category := by cases v <;> rfl
theorem LV.set {g : GX} {nL : Nat} {ls ls' : Array Slot} {L : List (Option Value)} {i : Nat} {v : Value} (h : LV g nL ls L) (hn : nlo L i = true) (h' : lv_has ls' nL ((i, va g v) :: (lvl g 0 L).filter (fun q => !(q.1 == i) && !(q.1 + 1 == i && q.2.category == 2)))) : LV g nL ls' (L.set i (some v)) := by
  refine ⟨⟨h'.1, h'.2.1, fun q hq => ?_⟩, by rw [List.length_set]; exact h.2⟩
  apply h'.2.2
  obtain ⟨j, w, e1, e2⟩ := mem_lvl.mp hq
  rw [List.getElem?_set] at e2
  by_cases hj : i = j
  · subst hj
    rw [if_pos rfl] at e2
    split at e2
    · cases e2; rw [e1]; simp
    · cases e2
  · rw [if_neg hj] at e2
    refine List.mem_cons_of_mem _ (List.mem_filter.mpr ⟨mem_lvl.mpr ⟨j, w, e1, e2⟩, ?_⟩)
    rw [e1]
    simp only [Nat.zero_add, va_cat]
    have hne : (j == i) = false := by simpa using (fun e => hj e.symm)
    rw [hne]
    cases hb : (j + 1 == i && w.category == 2) with
    | false => rfl
    | true =>
      simp only [Bool.and_eq_true, beq_iff_eq] at hb
      obtain ⟨hb1, hb2⟩ := hb
      subst hb1
      unfold nlo at hn
      simp only [e2] at hn
      cases w <;> simp [Value.category] at hb2 hn
theorem LV.set2 {g : GX} {nL : Nat} {ls ls' : Array Slot} {L : List (Option Value)} {i : Nat} {v : Value} (h : LV g nL ls L) (hn : nlo L i = true) (h' : lv_has ls' nL ((i, va g v) :: (lvl g 0 L).filter (fun q => !(q.1 == i) && (!(q.1 == i + 1) && !(q.1 + 1 == i && q.2.category == 2))))) : LV g nL ls' ((L.set (i + 1) none).set i (some v)) := by
  refine ⟨⟨h'.1, h'.2.1, fun q hq => ?_⟩, by rw [List.length_set, List.length_set]; exact h.2⟩
  apply h'.2.2
  obtain ⟨j, w, e1, e2⟩ := mem_lvl.mp hq
  rw [List.getElem?_set, List.getElem?_set] at e2
  by_cases hj : i = j
  · subst hj
    rw [if_pos rfl] at e2
    split at e2
    · cases e2; rw [e1]; simp
    · cases e2
  · rw [if_neg hj] at e2
    by_cases hj2 : i + 1 = j
    · rw [if_pos hj2] at e2
      split at e2 <;> cases e2
    · rw [if_neg hj2] at e2
      refine List.mem_cons_of_mem _ (List.mem_filter.mpr ⟨mem_lvl.mpr ⟨j, w, e1, e2⟩, ?_⟩)
      rw [e1]
      simp only [Nat.zero_add, va_cat]
      have hne : (j == i) = false := by simpa using (fun e => hj e.symm)
      have hne2 : (j == i + 1) = false := by simpa using (fun e => hj2 e.symm)
      rw [hne, hne2]
      cases hb : (j + 1 == i && w.category == 2) with
      | false => rfl
      | true =>
        simp only [Bool.and_eq_true, beq_iff_eq] at hb
        obtain ⟨hb1, hb2⟩ := hb
        subst hb1
        unfold nlo at hn
        simp only [e2] at hn
        cases w <;> simp [Value.category] at hb2 hn
/-- fewer known locals -/
def lle : List (Option Value) → List (Option Value) → Prop
  | [], [] => True
  | none :: a, _ :: b => lle a b
  | some v :: a, some w :: b => v = w ∧ lle a b
  | _, _ => False
theorem lle_get : ∀ {A B : List (Option Value)}, lle A B → A.length = B.length ∧ ∀ (j : Nat) (v : Value), A[j]? = some (some v) → B[j]? = some (some v) := by
  intro A
  induction A with
  | nil => intro B h; cases B with
    | nil => exact ⟨rfl, fun j v h => h⟩
    | cons b B => exact h.elim
  | cons a A ih => intro B h; cases B with
    | nil => cases a <;> exact h.elim
    | cons b B =>
      cases a with
      | none =>
        have h' : lle A B := h
        obtain ⟨h1, h2⟩ := ih h'
        refine ⟨by simp [h1], fun j v hj => ?_⟩
        cases j with
        | zero => simp at hj
        | succ j => simpa using h2 j v (by simpa using hj)
      | some v0 =>
        cases b with
        | none => exact h.elim
        | some w0 =>
          have h' : v0 = w0 ∧ lle A B := h
          obtain ⟨h1, h2⟩ := ih h'.2
          refine ⟨by simp [h1], fun j v hj => ?_⟩
          cases j with
          | zero => rw [← h'.1]; exact hj
          | succ j => simpa using h2 j v (by simpa using hj)
theorem LV.less {g : GX} {nL : Nat} {ls : Array Slot} {A B : List (Option Value)} (h : LV g nL ls B) (hl : lle A B) : LV g nL ls A := by
  obtain ⟨h1, h2⟩ := lle_get hl
  refine ⟨⟨h.1.1, h.1.2.1, fun q hq => ?_⟩, h1.trans h.2⟩
  obtain ⟨j, w, e1, e2⟩ := mem_lvl.mp hq
  exact h.1.2.2 q (mem_lvl.mpr ⟨j, w, e1, h2 j w e2⟩)
end
section
abbrev KX : Type := Program × Launch × Env × Room × State × MethodId × Array Value × List Frame × Method × Code
def RLE (R : Room) (d mc ms : Nat) : Prop := d + 10 ≤ R.frames ∧ 100 * d + 300 ≤ R.locals ∧ R.cells = mc ∧ R.slots = ms
def rmD (d mc ms : Nat) : Room := { frames := d + 10, cells := mc, slots := ms, locals := 100 * d + 300 }
def SF (g : GX) : Prop := (∀ k : Nat, k < nStr → va_O "java/lang/String" (g.2.2.2.1 k) (Ag g) g.1 g.1.heap ∧ va_OF "java/lang/String" "coder" "B" (.int 0) (g.2.2.2.1 k) (Ag g) g.1 g.1.heap ∧ va_OF "java/lang/String" "value" "[B" (.ref (g.2.2.2.1 (1000 + k))) (g.2.2.2.1 k) (Ag g) g.1 g.1.heap ∧ va_T .byte (g.2.2.2.1 (1000 + k)) (strB k).length (fun j => .int ((strB k).getD j 0)) (Ag g) g.1 g.1.heap ∧ vk_R (strOwn k) (strIdx k) (strTx k) (g.2.2.2.1 k) g.1) ∧ va_Z "java/lang/String" "COMPACT_STRINGS" "Z" (.int 1) (Ag g) g.1 g.1.heap ∧ (va_Z "jdk/internal/util/Preconditions" "SIOOBE_FORMATTER" "Ljava/util/function/BiFunction;" .null (Ag g) g.1 g.1.heap ∨ va_Z "jdk/internal/util/Preconditions" "SIOOBE_FORMATTER" "Ljava/util/function/BiFunction;" (.ref (g.2.2.2.1 998)) (Ag g) g.1 g.1.heap)
def TF (g : GX) : Prop := vx_Zq Bundle.tN "UNASSIGNED_STACK" Bundle.steD (Ag g) g.1 g.1.heap ∧ vx_Zq Bundle.tN "SUPPRESSED_SENTINEL" Bundle.listD (Ag g) g.1 g.1.heap
def XF (g : GX) : Prop := va_X g.2.2.2.2.1 g.2.2.2.2.2.1 g.2.2.2.2.2.2 g.1 g.1.heap ∧ g.2.2.2.2.1 < bs g
/-- what stands at the law's start -/
def GF (g : GX) (l : Launch) : Prop := (∀ w ∈ lw_tbl, w.before #[Value.ref g.2.2.2.2.1] g.1 = true) ∧ va_K g.2.1 vwCl (tysG g) g.1 ∧ l.flags = flags0 ∧ SF g ∧ TF g ∧ XF g
/-- where a method stands -/
def CX (g : GX) (x : KX) (own : String) (cc : ByteArray) (nL d mc ms : Nat) : Prop :=
  x.1.tables.exec = Jvm.exec ∧ x.2.2.2.2.2.2.2.2.2.code = cc ∧ x.2.2.2.2.2.2.2.2.2.maxLocals = nL ∧ x.2.2.2.2.1.vm.findClass own = some x.2.2.2.2.2.1.cls ∧ x.2.2.2.2.2.2.2.2.1.locks = false ∧ RLE x.2.2.2.1 d mc ms ∧ GF g x.2.1 ∧ g.1.WarmedH x.2.2.2.2.1.vm ∧ bs g ≤ x.2.2.2.2.1.heap.size ∧ (∀ q, q < bs g → x.2.2.2.2.1.heap[q]? = g.1.heap[q]?)
abbrev WX (x : KX) (H : Heap) (locs : List Loc) (kc ks : Nat) (Q : State → Prop) (f : JFrame) : Prop := W x.1 x.2.1 x.2.2.1 x.2.2.2.1 x.2.2.2.2.1 x.2.2.2.2.2.1 x.2.2.2.2.2.2.1 x.2.2.2.2.2.2.2.1 x.2.2.2.2.2.2.2.2.1 x.2.2.2.2.2.2.2.2.2 H locs kc ks Q f
def GG (g : GX) (x : KX) (nL : Nat) (Q : State → Prop) (kc ks : Nat) (y : Lay) (M : Mem) (pc : Nat) (L : List (Option Value)) (S : List Value) : Prop :=
  ∀ (H : Heap) (locs : List Loc) (ls : Array Slot), RelH g y M H → va_S (Ag g) x.2.2.2.2.1.heap H locs → LV g nL ls L → WX x H locs kc ks Q (F0 x.2.2.2.2.2.1 pc ls (S.map (va g)))
theorem CX.word {g : GX} {x : KX} {own : String} {cc : ByteArray} {nL d mc ms : Nat} (C : CX g x own cc nL d mc ms) {w : Cond} (hw : w ∈ lw_tbl) (hg : goodWord w = true) : w.before x.2.2.2.2.2.2.1 x.2.2.2.2.1 = true :=
  word_at C.2.2.2.2.2.2.2.1 (good_of_word hg) (C.2.2.2.2.2.2.1.1 w hw)
theorem CX.K {g : GX} {x : KX} {own : String} {cc : ByteArray} {nL d mc ms : Nat} (C : CX g x own cc nL d mc ms) : va_K g.2.1 vwCl (tysG g) x.2.2.2.2.1 :=
  va_K.moved (C.2.2.2.2.2.2.2.1).alike C.2.2.2.2.2.2.1.2.1
section GR
variable {g : GX} {x : KX} {own : String} {cc : ByteArray} {nL d mc ms : Nat} {Q : State → Prop} {kc ks : Nat} {y : Lay} {M : Mem} {pc i : Nat} {L : List (Option Value)} {S : List Value} {tb : Tb}
/-- fewer locals -/
theorem g_less {L' : List (Option Value)} (hl : lle L' L) (k : GG g x nL Q kc ks y M pc L' S) : GG g x nL Q kc ks y M pc L S := fun H locs ls h1 h2 h4 => k H locs ls h1 h2 (h4.less hl)
theorem g_topi {e : Int32} (k : ∀ v : Int32, v = e → GG g x nL Q kc ks y M pc L (.int v :: S)) : GG g x nL Q kc ks y M pc L (.int e :: S) := k e rfl
theorem g_topl {e : Int64} (k : ∀ v : Int64, v = e → GG g x nL Q kc ks y M pc L (.long v :: S)) : GG g x nL Q kc ks y M pc L (.long e :: S) := k e rfl
theorem g_mem {e : Mem} (k : ∀ v : Mem, v = e → GG g x nL Q kc ks y v pc L S) : GG g x nL Q kc ks y e pc L S := k e rfl

theorem g_iconst (C : CX g x own cc nL d mc ms) (T : dck cc tb = true) {n : Int} (hi : tb[i]? = some (pc, .iconst n, 1))  (k : GG g x nL Q kc ks y M (pc + 1) L (.int (Int32.ofInt n) :: S)) : GG g x nL Q kc ks y M pc L (S) :=
  fun H locs ls h1 h2 h4 => lv_iconst C.1 C.2.1 (dcg T hi) rfl (k H locs ls h1 h2 h4)
theorem g_bipush (C : CX g x own cc nL d mc ms) (T : dck cc tb = true) {n : Int} (hi : tb[i]? = some (pc, .bipush n, 2))  (k : GG g x nL Q kc ks y M (pc + 2) L (.int ((Int8.ofInt n).toInt32) :: S)) : GG g x nL Q kc ks y M pc L (S) :=
  fun H locs ls h1 h2 h4 => lv_bipush C.1 C.2.1 (dcg T hi) rfl (k H locs ls h1 h2 h4)
theorem g_sipush (C : CX g x own cc nL d mc ms) (T : dck cc tb = true) {n : Int} (hi : tb[i]? = some (pc, .sipush n, 3))  (k : GG g x nL Q kc ks y M (pc + 3) L (.int ((Int16.ofInt n).toInt32) :: S)) : GG g x nL Q kc ks y M pc L (S) :=
  fun H locs ls h1 h2 h4 => lv_sipush C.1 C.2.1 (dcg T hi) rfl (k H locs ls h1 h2 h4)
theorem g_iconstv (C : CX g x own cc nL d mc ms) (T : dck cc tb = true) {n : Int} (v : Int32) (hi : tb[i]? = some (pc, .iconst n, 1)) (hv : Int32.ofInt n = v) (k : GG g x nL Q kc ks y M (pc + 1) L (.int v :: S)) : GG g x nL Q kc ks y M pc L S :=
  fun H locs ls h1 h2 h4 => lv_iconst C.1 C.2.1 (dcg T hi) hv (k H locs ls h1 h2 h4)
theorem g_bipushv (C : CX g x own cc nL d mc ms) (T : dck cc tb = true) {n : Int} (v : Int32) (hi : tb[i]? = some (pc, .bipush n, 2)) (hv : (Int8.ofInt n).toInt32 = v) (k : GG g x nL Q kc ks y M (pc + 2) L (.int v :: S)) : GG g x nL Q kc ks y M pc L S :=
  fun H locs ls h1 h2 h4 => lv_bipush C.1 C.2.1 (dcg T hi) hv (k H locs ls h1 h2 h4)
theorem g_sipushv (C : CX g x own cc nL d mc ms) (T : dck cc tb = true) {n : Int} (v : Int32) (hi : tb[i]? = some (pc, .sipush n, 3)) (hv : (Int16.ofInt n).toInt32 = v) (k : GG g x nL Q kc ks y M (pc + 3) L (.int v :: S)) : GG g x nL Q kc ks y M pc L S :=
  fun H locs ls h1 h2 h4 => lv_sipush C.1 C.2.1 (dcg T hi) hv (k H locs ls h1 h2 h4)
theorem g_lconst (C : CX g x own cc nL d mc ms) (T : dck cc tb = true) {n : Fin 2} (v : Int64) (hi : tb[i]? = some (pc, .lconst n, 1)) (hv : Int64.ofNat (n : Nat) = v) (k : GG g x nL Q kc ks y M (pc + 1) L (.long v :: S)) : GG g x nL Q kc ks y M pc L S :=
  fun H locs ls h1 h2 h4 => lv_lconst C.1 C.2.1 (dcg T hi) hv (k H locs ls h1 h2 h4)
theorem g_iadd (C : CX g x own cc nL d mc ms) (T : dck cc tb = true) {a b : Int32} (hi : tb[i]? = some (pc, .iadd, 1))  (k : GG g x nL Q kc ks y M (pc + 1) L (.int (a + b) :: S)) : GG g x nL Q kc ks y M pc L (.int b :: .int a :: S) :=
  fun H locs ls h1 h2 h4 => lv_iadd C.1 C.2.1 (dcg T hi)  (k H locs ls h1 h2 h4)
theorem g_isub (C : CX g x own cc nL d mc ms) (T : dck cc tb = true) {a b : Int32} (hi : tb[i]? = some (pc, .isub, 1))  (k : GG g x nL Q kc ks y M (pc + 1) L (.int (a - b) :: S)) : GG g x nL Q kc ks y M pc L (.int b :: .int a :: S) :=
  fun H locs ls h1 h2 h4 => lv_isub C.1 C.2.1 (dcg T hi)  (k H locs ls h1 h2 h4)
theorem g_imul (C : CX g x own cc nL d mc ms) (T : dck cc tb = true) {a b : Int32} (hi : tb[i]? = some (pc, .imul, 1))  (k : GG g x nL Q kc ks y M (pc + 1) L (.int (a * b) :: S)) : GG g x nL Q kc ks y M pc L (.int b :: .int a :: S) :=
  fun H locs ls h1 h2 h4 => lv_imul C.1 C.2.1 (dcg T hi)  (k H locs ls h1 h2 h4)
theorem g_iand (C : CX g x own cc nL d mc ms) (T : dck cc tb = true) {a b : Int32} (hi : tb[i]? = some (pc, .iand, 1))  (k : GG g x nL Q kc ks y M (pc + 1) L (.int (a &&& b) :: S)) : GG g x nL Q kc ks y M pc L (.int b :: .int a :: S) :=
  fun H locs ls h1 h2 h4 => lv_iand C.1 C.2.1 (dcg T hi)  (k H locs ls h1 h2 h4)
theorem g_ior (C : CX g x own cc nL d mc ms) (T : dck cc tb = true) {a b : Int32} (hi : tb[i]? = some (pc, .ior, 1))  (k : GG g x nL Q kc ks y M (pc + 1) L (.int (a ||| b) :: S)) : GG g x nL Q kc ks y M pc L (.int b :: .int a :: S) :=
  fun H locs ls h1 h2 h4 => lv_ior C.1 C.2.1 (dcg T hi)  (k H locs ls h1 h2 h4)
theorem g_ixor (C : CX g x own cc nL d mc ms) (T : dck cc tb = true) {a b : Int32} (hi : tb[i]? = some (pc, .ixor, 1))  (k : GG g x nL Q kc ks y M (pc + 1) L (.int (a ^^^ b) :: S)) : GG g x nL Q kc ks y M pc L (.int b :: .int a :: S) :=
  fun H locs ls h1 h2 h4 => lv_ixor C.1 C.2.1 (dcg T hi)  (k H locs ls h1 h2 h4)
theorem g_ishl (C : CX g x own cc nL d mc ms) (T : dck cc tb = true) {a b : Int32} (hi : tb[i]? = some (pc, .ishl, 1))  (k : GG g x nL Q kc ks y M (pc + 1) L (.int (a <<< (b &&& 31)) :: S)) : GG g x nL Q kc ks y M pc L (.int b :: .int a :: S) :=
  fun H locs ls h1 h2 h4 => lv_ishl C.1 C.2.1 (dcg T hi)  (k H locs ls h1 h2 h4)
theorem g_ishr (C : CX g x own cc nL d mc ms) (T : dck cc tb = true) {a b : Int32} (hi : tb[i]? = some (pc, .ishr, 1))  (k : GG g x nL Q kc ks y M (pc + 1) L (.int (a >>> (b &&& 31)) :: S)) : GG g x nL Q kc ks y M pc L (.int b :: .int a :: S) :=
  fun H locs ls h1 h2 h4 => lv_ishr C.1 C.2.1 (dcg T hi)  (k H locs ls h1 h2 h4)
theorem g_iushr (C : CX g x own cc nL d mc ms) (T : dck cc tb = true) {a b : Int32} (hi : tb[i]? = some (pc, .iushr, 1))  (k : GG g x nL Q kc ks y M (pc + 1) L (.int ((a.toUInt32 >>> (b.toUInt32 &&& Int32.toUInt32 31)).toInt32) :: S)) : GG g x nL Q kc ks y M pc L (.int b :: .int a :: S) :=
  fun H locs ls h1 h2 h4 => lv_iushr C.1 C.2.1 (dcg T hi) rfl (k H locs ls h1 h2 h4)
theorem g_idiv (C : CX g x own cc nL d mc ms) (T : dck cc tb = true) {a b : Int32} (hi : tb[i]? = some (pc, .idiv, 1)) (hb : ¬ b = 0) (k : GG g x nL Q kc ks y M (pc + 1) L (.int (a / b) :: S)) : GG g x nL Q kc ks y M pc L (.int b :: .int a :: S) :=
  fun H locs ls h1 h2 h4 => lv_idiv C.1 C.2.1 (dcg T hi) hb (k H locs ls h1 h2 h4)
theorem g_irem (C : CX g x own cc nL d mc ms) (T : dck cc tb = true) {a b : Int32} (hi : tb[i]? = some (pc, .irem, 1)) (hb : ¬ b = 0) (k : GG g x nL Q kc ks y M (pc + 1) L (.int (a - a / b * b) :: S)) : GG g x nL Q kc ks y M pc L (.int b :: .int a :: S) :=
  fun H locs ls h1 h2 h4 => lv_irem C.1 C.2.1 (dcg T hi) hb (k H locs ls h1 h2 h4)
theorem g_ladd (C : CX g x own cc nL d mc ms) (T : dck cc tb = true) {a b : Int64} (hi : tb[i]? = some (pc, .ladd, 1))  (k : GG g x nL Q kc ks y M (pc + 1) L (.long (a + b) :: S)) : GG g x nL Q kc ks y M pc L (.long b :: .long a :: S) :=
  fun H locs ls h1 h2 h4 => lv_ladd C.1 C.2.1 (dcg T hi)  (k H locs ls h1 h2 h4)
theorem g_lsub (C : CX g x own cc nL d mc ms) (T : dck cc tb = true) {a b : Int64} (hi : tb[i]? = some (pc, .lsub, 1))  (k : GG g x nL Q kc ks y M (pc + 1) L (.long (a - b) :: S)) : GG g x nL Q kc ks y M pc L (.long b :: .long a :: S) :=
  fun H locs ls h1 h2 h4 => lv_lsub C.1 C.2.1 (dcg T hi)  (k H locs ls h1 h2 h4)
theorem g_lor (C : CX g x own cc nL d mc ms) (T : dck cc tb = true) {a b : Int64} (hi : tb[i]? = some (pc, .lor, 1))  (k : GG g x nL Q kc ks y M (pc + 1) L (.long (a ||| b) :: S)) : GG g x nL Q kc ks y M pc L (.long b :: .long a :: S) :=
  fun H locs ls h1 h2 h4 => lv_lor C.1 C.2.1 (dcg T hi)  (k H locs ls h1 h2 h4)
theorem g_land (C : CX g x own cc nL d mc ms) (T : dck cc tb = true) {a b : Int64} (hi : tb[i]? = some (pc, .land, 1))  (k : GG g x nL Q kc ks y M (pc + 1) L (.long (a &&& b) :: S)) : GG g x nL Q kc ks y M pc L (.long b :: .long a :: S) :=
  fun H locs ls h1 h2 h4 => lv_land C.1 C.2.1 (dcg T hi)  (k H locs ls h1 h2 h4)
theorem g_lshl (C : CX g x own cc nL d mc ms) (T : dck cc tb = true) {a : Int64} {b : Int32} (hi : tb[i]? = some (pc, .lshl, 1))  (k : GG g x nL Q kc ks y M (pc + 1) L (.long (a <<< (b.toInt64 &&& 63)) :: S)) : GG g x nL Q kc ks y M pc L (.int b :: .long a :: S) :=
  fun H locs ls h1 h2 h4 => lv_lshl C.1 C.2.1 (dcg T hi) rfl (k H locs ls h1 h2 h4)
theorem g_lushr (C : CX g x own cc nL d mc ms) (T : dck cc tb = true) {a : Int64} {b : Int32} (hi : tb[i]? = some (pc, .lushr, 1))  (k : GG g x nL Q kc ks y M (pc + 1) L (.long ((a.toUInt64 >>> (b.toInt64.toUInt64 &&& Int64.toUInt64 63)).toInt64) :: S)) : GG g x nL Q kc ks y M pc L (.int b :: .long a :: S) :=
  fun H locs ls h1 h2 h4 => lv_lushr C.1 C.2.1 (dcg T hi) rfl (k H locs ls h1 h2 h4)
theorem g_i2l (C : CX g x own cc nL d mc ms) (T : dck cc tb = true) {a : Int32} (hi : tb[i]? = some (pc, .i2l, 1))  (k : GG g x nL Q kc ks y M (pc + 1) L (.long a.toInt64 :: S)) : GG g x nL Q kc ks y M pc L (.int a :: S) :=
  fun H locs ls h1 h2 h4 => lv_i2l C.1 C.2.1 (dcg T hi) rfl (k H locs ls h1 h2 h4)
theorem g_l2i (C : CX g x own cc nL d mc ms) (T : dck cc tb = true) {a : Int64} (hi : tb[i]? = some (pc, .l2i, 1))  (k : GG g x nL Q kc ks y M (pc + 1) L (.int a.toInt32 :: S)) : GG g x nL Q kc ks y M pc L (.long a :: S) :=
  fun H locs ls h1 h2 h4 => lv_l2i C.1 C.2.1 (dcg T hi) rfl (k H locs ls h1 h2 h4)
theorem g_i2b (C : CX g x own cc nL d mc ms) (T : dck cc tb = true) {a : Int32} (hi : tb[i]? = some (pc, .i2b, 1))  (k : GG g x nL Q kc ks y M (pc + 1) L (.int a.toInt8.toInt32 :: S)) : GG g x nL Q kc ks y M pc L (.int a :: S) :=
  fun H locs ls h1 h2 h4 => lv_i2b C.1 C.2.1 (dcg T hi) rfl (k H locs ls h1 h2 h4)
theorem g_dup (C : CX g x own cc nL d mc ms) (T : dck cc tb = true) {v : Value} (hi : tb[i]? = some (pc, .dup, 1)) (hv : v.category = 1) (k : GG g x nL Q kc ks y M (pc + 1) L (v :: v :: S)) : GG g x nL Q kc ks y M pc L (v :: S) :=
  fun H locs ls h1 h2 h4 => lv_dup C.1 C.2.1 (dcg T hi) ((va_cat v).trans hv) (k H locs ls h1 h2 h4)
theorem g_dup2 (C : CX g x own cc nL d mc ms) (T : dck cc tb = true) {v u : Value} (hi : tb[i]? = some (pc, .dup2, 1)) (hv : v.category = 1) (hu : u.category = 1) (k : GG g x nL Q kc ks y M (pc + 1) L (v :: u :: v :: u :: S)) : GG g x nL Q kc ks y M pc L (v :: u :: S) :=
  fun H locs ls h1 h2 h4 => lv_dup2_11 C.1 C.2.1 (dcg T hi) ((va_cat v).trans hv) ((va_cat u).trans hu) (k H locs ls h1 h2 h4)
theorem g_pop (C : CX g x own cc nL d mc ms) (T : dck cc tb = true) {v : Value} (hi : tb[i]? = some (pc, .pop, 1)) (hv : v.category = 1) (k : GG g x nL Q kc ks y M (pc + 1) L (S)) : GG g x nL Q kc ks y M pc L (v :: S) :=
  fun H locs ls h1 h2 h4 => lv_pop C.1 C.2.1 (dcg T hi) ((va_cat v).trans hv) (k H locs ls h1 h2 h4)
theorem g_lcmp (C : CX g x own cc nL d mc ms) (T : dck cc tb = true) {a b : Int64} (hi : tb[i]? = some (pc, .lcmp, 1)) (k : GG g x nL Q kc ks y M (pc + 1) L (.int (lg_cmp a b) :: S)) : GG g x nL Q kc ks y M pc L (.long b :: .long a :: S) :=
  fun H locs ls h1 h2 h4 => W.lcmp C.1 C.2.1 (dcg T hi) (k H locs ls h1 h2 h4)
theorem g_iload_n (C : CX g x own cc nL d mc ms) (T : dck cc tb = true) {j : Fin 4} {v : Int32} (hi : tb[i]? = some (pc, .iload_n j, 1)) (hl : L[(j : Nat)]? = some (some (.int v))) (k : GG g x nL Q kc ks y M (pc + 1) L (.int v :: S)) : GG g x nL Q kc ks y M pc L S :=
  fun H locs ls h1 h2 h4 => lv_iload_n C.1 C.2.1 (dcg T hi) rfl (h4.get hl) (k H locs ls h1 h2 h4)
theorem g_iload (C : CX g x own cc nL d mc ms) (T : dck cc tb = true) {j : Nat} {v : Int32} (hi : tb[i]? = some (pc, .iload j, 2)) (hl : L[j]? = some (some (.int v))) (k : GG g x nL Q kc ks y M (pc + 2) L (.int v :: S)) : GG g x nL Q kc ks y M pc L S :=
  fun H locs ls h1 h2 h4 => lv_iload C.1 C.2.1 (dcg T hi) (h4.get hl) (k H locs ls h1 h2 h4)
theorem g_lload_n (C : CX g x own cc nL d mc ms) (T : dck cc tb = true) {j : Fin 4} {v : Int64} (hi : tb[i]? = some (pc, .lload_n j, 1)) (hl : L[(j : Nat)]? = some (some (.long v))) (k : GG g x nL Q kc ks y M (pc + 1) L (.long v :: S)) : GG g x nL Q kc ks y M pc L S :=
  fun H locs ls h1 h2 h4 => lv_lload_n C.1 C.2.1 (dcg T hi) rfl (h4.get hl) (k H locs ls h1 h2 h4)
theorem g_lload (C : CX g x own cc nL d mc ms) (T : dck cc tb = true) {j : Nat} {v : Int64} (hi : tb[i]? = some (pc, .lload j, 2)) (hl : L[j]? = some (some (.long v))) (k : GG g x nL Q kc ks y M (pc + 2) L (.long v :: S)) : GG g x nL Q kc ks y M pc L S :=
  fun H locs ls h1 h2 h4 => lv_lload C.1 C.2.1 (dcg T hi) (h4.get hl) (k H locs ls h1 h2 h4)
theorem g_aload_n (C : CX g x own cc nL d mc ms) (T : dck cc tb = true) {j : Fin 4} {v : Nat} (hi : tb[i]? = some (pc, .aload_n j, 1)) (hl : L[(j : Nat)]? = some (some (.ref v))) (k : GG g x nL Q kc ks y M (pc + 1) L (.ref v :: S)) : GG g x nL Q kc ks y M pc L S :=
  fun H locs ls h1 h2 h4 => lv_aload_n C.1 C.2.1 (dcg T hi) rfl (h4.get hl) (k H locs ls h1 h2 h4)
theorem g_aload (C : CX g x own cc nL d mc ms) (T : dck cc tb = true) {j : Nat} {v : Nat} (hi : tb[i]? = some (pc, .aload j, 2)) (hl : L[j]? = some (some (.ref v))) (k : GG g x nL Q kc ks y M (pc + 2) L (.ref v :: S)) : GG g x nL Q kc ks y M pc L S :=
  fun H locs ls h1 h2 h4 => lv_aload C.1 C.2.1 (dcg T hi) (h4.get hl) (k H locs ls h1 h2 h4)
theorem g_istore_n (C : CX g x own cc nL d mc ms) (T : dck cc tb = true) {j : Fin 4} {v : Int32} (hi : tb[i]? = some (pc, .istore_n j, 1)) (hj : Nat.ble ((j : Nat) + 1) nL = true) (hn : nlo L (j : Nat) = true) (k : GG g x nL Q kc ks y M (pc + 1) (L.set (j : Nat) (some (.int v))) S) : GG g x nL Q kc ks y M pc L (.int v :: S) :=
  fun H locs ls h1 h2 h4 => lv_istore_n C.1 C.2.1 (dcg T hi) rfl h4.1 (Nat.le_of_ble_eq_true hj) rfl (fun ls' h' => k H locs ls' h1 h2 (h4.set hn h'))
theorem g_istore (C : CX g x own cc nL d mc ms) (T : dck cc tb = true) {j : Nat} {v : Int32} (hi : tb[i]? = some (pc, .istore j, 2)) (hj : Nat.ble (j + 1) nL = true) (hn : nlo L j = true) (k : GG g x nL Q kc ks y M (pc + 2) (L.set j (some (.int v))) S) : GG g x nL Q kc ks y M pc L (.int v :: S) :=
  fun H locs ls h1 h2 h4 => lv_istore C.1 C.2.1 (dcg T hi) h4.1 (Nat.le_of_ble_eq_true hj) rfl (fun ls' h' => k H locs ls' h1 h2 (h4.set hn h'))
theorem g_astore_n (C : CX g x own cc nL d mc ms) (T : dck cc tb = true) {j : Fin 4} {v : Nat} (hi : tb[i]? = some (pc, .astore_n j, 1)) (hj : Nat.ble ((j : Nat) + 1) nL = true) (hn : nlo L (j : Nat) = true) (k : GG g x nL Q kc ks y M (pc + 1) (L.set (j : Nat) (some (.ref v))) S) : GG g x nL Q kc ks y M pc L (.ref v :: S) :=
  fun H locs ls h1 h2 h4 => lv_astore_n C.1 C.2.1 (dcg T hi) rfl h4.1 (Nat.le_of_ble_eq_true hj) rfl (fun ls' h' => k H locs ls' h1 h2 (h4.set hn h'))
theorem g_astore (C : CX g x own cc nL d mc ms) (T : dck cc tb = true) {j : Nat} {v : Nat} (hi : tb[i]? = some (pc, .astore j, 2)) (hj : Nat.ble (j + 1) nL = true) (hn : nlo L j = true) (k : GG g x nL Q kc ks y M (pc + 2) (L.set j (some (.ref v))) S) : GG g x nL Q kc ks y M pc L (.ref v :: S) :=
  fun H locs ls h1 h2 h4 => lv_astore C.1 C.2.1 (dcg T hi) h4.1 (Nat.le_of_ble_eq_true hj) rfl (fun ls' h' => k H locs ls' h1 h2 (h4.set hn h'))
theorem g_lstore_n (C : CX g x own cc nL d mc ms) (T : dck cc tb = true) {j : Fin 4} {v : Int64} (hi : tb[i]? = some (pc, .lstore_n j, 1)) (hj : Nat.ble ((j : Nat) + 2) nL = true) (hn : nlo L (j : Nat) = true) (k : GG g x nL Q kc ks y M (pc + 1) ((L.set ((j : Nat) + 1) none).set (j : Nat) (some (.long v))) S) : GG g x nL Q kc ks y M pc L (.long v :: S) :=
  fun H locs ls h1 h2 h4 => lv_lstore_n C.1 C.2.1 (dcg T hi) rfl h4.1 (Nat.le_of_ble_eq_true hj) rfl (fun ls' h' => k H locs ls' h1 h2 (h4.set2 hn h'))
theorem g_iinc (C : CX g x own cc nL d mc ms) (T : dck cc tb = true) {j : Nat} {n : Int} {v : Int32} (e : Int32) (hi : tb[i]? = some (pc, .iinc j n, 3)) (hl : L[j]? = some (some (.int v))) (he : Int32.ofInt n = e) (hj : Nat.ble (j + 1) nL = true) (hn : nlo L j = true) (k : GG g x nL Q kc ks y M (pc + 3) (L.set j (some (.int (v + e)))) S) : GG g x nL Q kc ks y M pc L S :=
  fun H locs ls h1 h2 h4 => by
    subst he
    obtain ⟨kk, hk⟩ := List.getElem?_of_mem (mem_lvl.mpr ⟨j, _, rfl, hl⟩ : ((0 + j, va g (.int v)) : Nat × Value) ∈ lvl g 0 L)
    rw [Nat.zero_add] at hk
    exact lv_iinc C.1 C.2.1 (dcg T hi) h4.1 hk rfl (Nat.le_of_ble_eq_true hj) rfl (fun ls' h' => k H locs ls' h1 h2 (h4.set hn h'))
theorem g_goto (C : CX g x own cc nL d mc ms) (T : dck cc tb = true) {off : Int} (tgt : Nat) (hi : tb[i]? = some (pc, .goto off, 3)) (ht : (pc : Int) + off = (tgt : Int)) (k : GG g x nL Q kc ks y M tgt L S) : GG g x nL Q kc ks y M pc L S :=
  fun H locs ls h1 h2 h4 => lv_goto C.1 C.2.1 (dcg T hi) ht (k H locs ls h1 h2 h4)
theorem g_icmp_eq (C : CX g x own cc nL d mc ms) (T : dck cc tb = true) {a b : Int32} {off : Int} (tgt : Nat) (hi : tb[i]? = some (pc, .if_icmp .eq off, 3)) (ht : (pc : Int) + off = (tgt : Int)) (kt : a = b → GG g x nL Q kc ks y M tgt L S) (kf : ¬ (a = b) → GG g x nL Q kc ks y M (pc + 3) L S) : GG g x nL Q kc ks y M pc L (.int b :: .int a :: S) :=
  fun H locs ls h1 h2 h4 => lv_icmp_eq C.1 C.2.1 (dcg T hi) ht (fun c => kt c H locs ls h1 h2 h4) (fun c => kf c H locs ls h1 h2 h4)
theorem g_if_eq (C : CX g x own cc nL d mc ms) (T : dck cc tb = true) {a : Int32} {off : Int} (tgt : Nat) (hi : tb[i]? = some (pc, .ifCond .eq off, 3)) (ht : (pc : Int) + off = (tgt : Int)) (kt : a = 0 → GG g x nL Q kc ks y M tgt L S) (kf : ¬ (a = 0) → GG g x nL Q kc ks y M (pc + 3) L S) : GG g x nL Q kc ks y M pc L (.int a :: S) :=
  fun H locs ls h1 h2 h4 => lv_if_eq C.1 C.2.1 (dcg T hi) ht (fun c => kt c H locs ls h1 h2 h4) (fun c => kf c H locs ls h1 h2 h4)
theorem g_icmp_ne (C : CX g x own cc nL d mc ms) (T : dck cc tb = true) {a b : Int32} {off : Int} (tgt : Nat) (hi : tb[i]? = some (pc, .if_icmp .ne off, 3)) (ht : (pc : Int) + off = (tgt : Int)) (kt : ¬ a = b → GG g x nL Q kc ks y M tgt L S) (kf : a = b → GG g x nL Q kc ks y M (pc + 3) L S) : GG g x nL Q kc ks y M pc L (.int b :: .int a :: S) :=
  fun H locs ls h1 h2 h4 => lv_icmp_ne C.1 C.2.1 (dcg T hi) ht (fun c => kt c H locs ls h1 h2 h4) (fun c => kf c H locs ls h1 h2 h4)
theorem g_if_ne (C : CX g x own cc nL d mc ms) (T : dck cc tb = true) {a : Int32} {off : Int} (tgt : Nat) (hi : tb[i]? = some (pc, .ifCond .ne off, 3)) (ht : (pc : Int) + off = (tgt : Int)) (kt : ¬ a = 0 → GG g x nL Q kc ks y M tgt L S) (kf : a = 0 → GG g x nL Q kc ks y M (pc + 3) L S) : GG g x nL Q kc ks y M pc L (.int a :: S) :=
  fun H locs ls h1 h2 h4 => lv_if_ne C.1 C.2.1 (dcg T hi) ht (fun c => kt c H locs ls h1 h2 h4) (fun c => kf c H locs ls h1 h2 h4)
theorem g_icmp_lt (C : CX g x own cc nL d mc ms) (T : dck cc tb = true) {a b : Int32} {off : Int} (tgt : Nat) (hi : tb[i]? = some (pc, .if_icmp .lt off, 3)) (ht : (pc : Int) + off = (tgt : Int)) (kt : a < b → GG g x nL Q kc ks y M tgt L S) (kf : ¬ (a < b) → GG g x nL Q kc ks y M (pc + 3) L S) : GG g x nL Q kc ks y M pc L (.int b :: .int a :: S) :=
  fun H locs ls h1 h2 h4 => lv_icmp_lt C.1 C.2.1 (dcg T hi) ht (fun c => kt c H locs ls h1 h2 h4) (fun c => kf c H locs ls h1 h2 h4)
theorem g_if_lt (C : CX g x own cc nL d mc ms) (T : dck cc tb = true) {a : Int32} {off : Int} (tgt : Nat) (hi : tb[i]? = some (pc, .ifCond .lt off, 3)) (ht : (pc : Int) + off = (tgt : Int)) (kt : a < 0 → GG g x nL Q kc ks y M tgt L S) (kf : ¬ (a < 0) → GG g x nL Q kc ks y M (pc + 3) L S) : GG g x nL Q kc ks y M pc L (.int a :: S) :=
  fun H locs ls h1 h2 h4 => lv_if_lt C.1 C.2.1 (dcg T hi) ht (fun c => kt c H locs ls h1 h2 h4) (fun c => kf c H locs ls h1 h2 h4)
theorem g_icmp_ge (C : CX g x own cc nL d mc ms) (T : dck cc tb = true) {a b : Int32} {off : Int} (tgt : Nat) (hi : tb[i]? = some (pc, .if_icmp .ge off, 3)) (ht : (pc : Int) + off = (tgt : Int)) (kt : b ≤ a → GG g x nL Q kc ks y M tgt L S) (kf : ¬ (b ≤ a) → GG g x nL Q kc ks y M (pc + 3) L S) : GG g x nL Q kc ks y M pc L (.int b :: .int a :: S) :=
  fun H locs ls h1 h2 h4 => lv_icmp_ge C.1 C.2.1 (dcg T hi) ht (fun c => kt c H locs ls h1 h2 h4) (fun c => kf c H locs ls h1 h2 h4)
theorem g_if_ge (C : CX g x own cc nL d mc ms) (T : dck cc tb = true) {a : Int32} {off : Int} (tgt : Nat) (hi : tb[i]? = some (pc, .ifCond .ge off, 3)) (ht : (pc : Int) + off = (tgt : Int)) (kt : 0 ≤ a → GG g x nL Q kc ks y M tgt L S) (kf : ¬ (0 ≤ a) → GG g x nL Q kc ks y M (pc + 3) L S) : GG g x nL Q kc ks y M pc L (.int a :: S) :=
  fun H locs ls h1 h2 h4 => lv_if_ge C.1 C.2.1 (dcg T hi) ht (fun c => kt c H locs ls h1 h2 h4) (fun c => kf c H locs ls h1 h2 h4)
theorem g_icmp_gt (C : CX g x own cc nL d mc ms) (T : dck cc tb = true) {a b : Int32} {off : Int} (tgt : Nat) (hi : tb[i]? = some (pc, .if_icmp .gt off, 3)) (ht : (pc : Int) + off = (tgt : Int)) (kt : b < a → GG g x nL Q kc ks y M tgt L S) (kf : ¬ (b < a) → GG g x nL Q kc ks y M (pc + 3) L S) : GG g x nL Q kc ks y M pc L (.int b :: .int a :: S) :=
  fun H locs ls h1 h2 h4 => lv_icmp_gt C.1 C.2.1 (dcg T hi) ht (fun c => kt c H locs ls h1 h2 h4) (fun c => kf c H locs ls h1 h2 h4)
theorem g_if_gt (C : CX g x own cc nL d mc ms) (T : dck cc tb = true) {a : Int32} {off : Int} (tgt : Nat) (hi : tb[i]? = some (pc, .ifCond .gt off, 3)) (ht : (pc : Int) + off = (tgt : Int)) (kt : 0 < a → GG g x nL Q kc ks y M tgt L S) (kf : ¬ (0 < a) → GG g x nL Q kc ks y M (pc + 3) L S) : GG g x nL Q kc ks y M pc L (.int a :: S) :=
  fun H locs ls h1 h2 h4 => lv_if_gt C.1 C.2.1 (dcg T hi) ht (fun c => kt c H locs ls h1 h2 h4) (fun c => kf c H locs ls h1 h2 h4)
theorem g_icmp_le (C : CX g x own cc nL d mc ms) (T : dck cc tb = true) {a b : Int32} {off : Int} (tgt : Nat) (hi : tb[i]? = some (pc, .if_icmp .le off, 3)) (ht : (pc : Int) + off = (tgt : Int)) (kt : a ≤ b → GG g x nL Q kc ks y M tgt L S) (kf : ¬ (a ≤ b) → GG g x nL Q kc ks y M (pc + 3) L S) : GG g x nL Q kc ks y M pc L (.int b :: .int a :: S) :=
  fun H locs ls h1 h2 h4 => lv_icmp_le C.1 C.2.1 (dcg T hi) ht (fun c => kt c H locs ls h1 h2 h4) (fun c => kf c H locs ls h1 h2 h4)
theorem g_if_le (C : CX g x own cc nL d mc ms) (T : dck cc tb = true) {a : Int32} {off : Int} (tgt : Nat) (hi : tb[i]? = some (pc, .ifCond .le off, 3)) (ht : (pc : Int) + off = (tgt : Int)) (kt : a ≤ 0 → GG g x nL Q kc ks y M tgt L S) (kf : ¬ (a ≤ 0) → GG g x nL Q kc ks y M (pc + 3) L S) : GG g x nL Q kc ks y M pc L (.int a :: S) :=
  fun H locs ls h1 h2 h4 => lv_if_le C.1 C.2.1 (dcg T hi) ht (fun c => kt c H locs ls h1 h2 h4) (fun c => kf c H locs ls h1 h2 h4)
theorem g_tableIn (C : CX g x own cc nL d mc ms) (T : dck cc tb = true) {dflt lo hi' : Int} {offs : Array Int} {len : Nat} {a : Int32} (c : Int32) (tgt : Nat) (off : Int) (hi : tb[i]? = some (pc, .tableswitch dflt lo hi' offs, len)) (hc : a = c) (h : (decide (¬ c.toInt < lo) && decide (¬ hi' < c.toInt) && decide (offs[(c.toInt - lo).toNat]? = some off)) = true) (ht : (pc : Int) + off = (tgt : Int)) (k : GG g x nL Q kc ks y M tgt L S) : GG g x nL Q kc ks y M pc L (.int a :: S) :=
  fun H locs ls h1 h2 h4 => by
    subst hc
    simp only [Bool.and_eq_true, decide_eq_true_eq] at h
    exact lv_tableIn C.1 C.2.1 (dcg T hi) h.1.1 h.1.2 h.2 ht (k H locs ls h1 h2 h4)
theorem g_tableOut (C : CX g x own cc nL d mc ms) (T : dck cc tb = true) {dflt lo hi' : Int} {offs : Array Int} {len : Nat} {a : Int32} (c1 c2 : Int32) (tgt : Nat) (hi : tb[i]? = some (pc, .tableswitch dflt lo hi' offs, len)) (hc : a < c1 ∨ c2 < a) (h : (decide (c1.toInt = lo) && decide (c2.toInt = hi')) = true) (ht : (pc : Int) + dflt = (tgt : Int)) (k : GG g x nL Q kc ks y M tgt L S) : GG g x nL Q kc ks y M pc L (.int a :: S) :=
  fun H locs ls h1 h2 h4 => by
    simp only [Bool.and_eq_true, decide_eq_true_eq] at h
    refine lv_tableOut C.1 C.2.1 (dcg T hi) ?_ ht (k H locs ls h1 h2 h4)
    rw [← h.1, ← h.2]
    exact hc.imp Int32.lt_iff_toInt_lt.mp Int32.lt_iff_toInt_lt.mp
theorem g_lookup (C : CX g x own cc nL d mc ms) (T : dck cc tb = true) {dflt : Int} {ps : Array (Int × Int)} {len : Nat} {a : Int32} (tgt : Nat) (off : Int) (hi : tb[i]? = some (pc, .lookupswitch dflt ps, len)) (hp : (ps.toList.zip (ps.toList.drop 1)).all (fun (a, next) => a.1 < next.1) = true) (ho : Op.lookupswitch.offset ps.toList dflt a.toInt = off) (ht : (pc : Int) + off = (tgt : Int)) (k : GG g x nL Q kc ks y M tgt L S) : GG g x nL Q kc ks y M pc L (.int a :: S) :=
  fun H locs ls h1 h2 h4 => lv_lookup C.1 C.2.1 (dcg T hi) hp ho ht (k H locs ls h1 h2 h4)
theorem g_ldcI (C : CX g x own cc nL d mc ms) (T : dck cc tb = true) {idx : Nat} {v : Int32} (hi : tb[i]? = some (pc, .ldc idx, 2)) (hw : Cond.constant own idx v ∈ lw_tbl) (k : GG g x nL Q kc ks y M (pc + 2) L (.int v :: S)) : GG g x nL Q kc ks y M pc L S :=
  fun H locs ls h1 h2 h4 => lv_ldc C.1 C.2.1 C.2.2.2.1 (C.word hw rfl) (dcg T hi) (k H locs ls h1 h2 h4)
theorem g_ldc2 (C : CX g x own cc nL d mc ms) (T : dck cc tb = true) {idx : Nat} {v : Int64} (hi : tb[i]? = some (pc, .ldc2_w idx, 3)) (hw : Cond.constantLong own idx v ∈ lw_tbl) (k : GG g x nL Q kc ks y M (pc + 3) L (.long v :: S)) : GG g x nL Q kc ks y M pc L S :=
  fun H locs ls h1 h2 h4 => lv_ldc2 C.1 C.2.1 C.2.2.2.1 (C.word hw rfl) (dcg T hi) (k H locs ls h1 h2 h4)
end GR
end
section
/-! ===== fields, arrays, returns, calls ===== -/
theorem u2_s {α : Type} (f : Nat → Nat → α) (p k : Nat) (v : α) : u2 f p k v p k = v := by simp [u2]
theorem u2_p {α : Type} (f : Nat → Nat → α) (p k : Nat) (v : α) {a : Nat} (h : a ≠ p) : u2 f p k v a = f a := by funext b; simp [u2, h]
theorem u2_k {α : Type} (f : Nat → Nat → α) (p k : Nat) (v : α) (a : Nat) {b : Nat} (h : b ≠ k) : u2 f p k v a b = f a b := by simp [u2, h]
theorem u2_row (f : Nat → Nat → Int32) (p k : Nat) (v : Int32) : u2 f p k v p = upd (f p) k v := by funext b; simp [u2, upd]
theorem u2_rowL (f : Nat → Nat → Int64) (p k : Nat) (v : Int64) : u2 f p k v p = vp_updL (f p) k v := by funext b; simp [u2, vp_updL]
theorem ent_wI {g : GX} {y : Lay} {M : Mem} {r k : Nat} {v : Int32} : ∀ p, p ≠ r → ∀ c', entK g y (wI M r k v) p c' = entK g y M p c' := by
  intro p hp c'
  have e : (wI M r k v).1 p = M.1 p := u2_p _ _ _ _ hp
  have e2 : slot g y (wI M r k v) p c'.2 = slot g y M p c'.2 := by funext j; unfold slot; rw [e]; rfl
  unfold entK
  rw [e, e2]; rfl
theorem ent_wL {g : GX} {y : Lay} {M : Mem} {r k : Nat} {v : Int64} : ∀ p, p ≠ r → ∀ c', entK g y (wL M r k v) p c' = entK g y M p c' := by
  intro p hp c'
  have e : (wL M r k v).2.1 p = M.2.1 p := u2_p _ _ _ _ hp
  have e2 : slot g y (wL M r k v) p c'.2 = slot g y M p c'.2 := by funext j; rfl
  unfold entK
  rw [e, e2]; rfl
theorem ent_wR {g : GX} {y : Lay} {M : Mem} {r k : Nat} {v : Nat} : ∀ p, p ≠ r → ∀ c', entK g y (wR M r k v) p c' = entK g y M p c' := by
  intro p hp c'
  have e : (wR M r k v).2.2 p = M.2.2 p := u2_p _ _ _ _ hp
  have e2 : slot g y (wR M r k v) p c'.2 = slot g y M p c'.2 := by funext j; unfold slot; rw [e]; rfl
  unfold entK
  rw [e2]; rfl
theorem fs_set {α : Type} (n k : Nat) (f f' : Nat → α) (v : α) (hk : f' k = v) (ho : ∀ j, j ≠ k → f' j = f j) : ((List.range n).map f).set k v = (List.range n).map f' := by
  apply List.ext_getElem?
  intro j
  rw [List.getElem?_set, List.getElem?_map, List.getElem?_map]
  by_cases h : k = j
  · subst h
    rw [if_pos rfl]
    by_cases hn : k < n
    · rw [List.getElem?_range hn, if_pos (by simpa using hn)]; simp [hk]
    · rw [if_neg (by simpa using hn), List.getElem?_eq_none (by simpa using hn)]; rfl
  · rw [if_neg h]
    by_cases hn : j < n
    · rw [List.getElem?_range hn]; simp [ho j (fun e => h e.symm)]
    · rw [List.getElem?_eq_none (by simpa using hn)]; rfl
theorem fs_get {α : Type} {n k : Nat} (f : Nat → α) (hk : k < n) : ((List.range n).map f)[k]? = some (f k) := by
  rw [List.getElem?_map, List.getElem?_range hk]; rfl
/-- a class of the table: its words stand in the tables -/
def CLS (ci : Nat) (q : vw_C) : Prop := vwCl[ci]? = some q ∧ (∀ w ∈ u_ws q.1 q.2.1 q.2.2, w ∈ lw_tbl) ∧ (∃ ty : Nat → FieldType, ∀ k, k < q.2.2 → parseFieldDescriptor (q.2.1 k).2.2.1 = some (ty k)) ∧ (∀ a, a < q.2.2 → ∀ b, b < q.2.2 → a ≠ b → (q.2.1 a).2.1 ≠ (q.2.1 b).2.1) ∧ nfl ci = q.2.2
/-- a field by its entry in a class's pool: the class's number and the field's place -/
def FLD (own : String) (idx ci k : Nat) : Prop := ∃ q : vw_C, CLS ci q ∧ k < q.2.2 ∧ (Cond.fieldLink own idx (q.2.1 k).1 (q.2.1 k).2.1 (q.2.1 k).2.2.1 ∈ lw_tbl ∨ ∃ host : String, Cond.fieldLinkNest own idx (q.2.1 k).1 (q.2.1 k).2.1 (q.2.1 k).2.2.1 host ∈ lw_tbl)
def FLT (ci k : Nat) (ty : FieldType) (fin : Bool) : Prop := ∀ q : vw_C, vwCl[ci]? = some q → parseFieldDescriptor (q.2.1 k).2.2.1 = some ty ∧ (q.2.1 k).2.2.2 = fin
theorem lay_good (C : String) (T : u_T) (k : Nat) : goodWord (u_lay C T k) = true := by unfold u_lay; split <;> rfl
theorem uws_good {C : String} {T : u_T} {N : Nat} : ∀ w ∈ u_ws C T N, goodWord w = true := by
  intro w hw
  obtain ⟨k, -, rfl⟩ := List.mem_map.mp hw
  exact lay_good _ _ _
section GF3
variable {g : GX} {x : KX} {own : String} {cc : ByteArray} {nL d mc ms : Nat} {Q : State → Prop} {kc ks : Nat} {y : Lay} {M : Mem} {pc i : Nat} {L : List (Option Value)} {S : List Value} {tb : Tb}
theorem CX.uws (C : CX g x own cc nL d mc ms) {ci : Nat} {q : vw_C} (h : CLS ci q) : ∀ w ∈ u_ws q.1 q.2.1 q.2.2, w.before x.2.2.2.2.2.2.1 x.2.2.2.2.1 = true := fun w hw => C.word (h.2.1 w hw) (uws_good w hw)
theorem CX.nestF (C : CX g x own cc nL d mc ms) {a : String} {j : Nat} {b n e h : String} (hw : Cond.fieldLinkNest a j b n e h ∈ lw_tbl) : (Cond.fieldLinkNest a j b n e h).before x.2.2.2.2.2.2.1 x.2.2.2.2.1 = true :=
  va_Nw.use rfl (va_Nw.warmF C.2.2.2.2.2.2.2.1 (va_Nw.of rfl (C.2.2.2.2.2.2.1.1 _ hw)))
theorem CX.nestM (C : CX g x own cc nL d mc ms) {a : String} {j : Nat} {m : MethodName} {h : String} (hw : Cond.methodLinkNest a j m h ∈ lw_tbl) : va_Nw (Cond.methodLinkNest a j m h) x.2.2.2.2.1 :=
  va_Nw.warmM C.2.2.2.2.2.2.2.1 (va_Nw.of rfl (C.2.2.2.2.2.2.1.1 _ hw))
/-- reading a field -/
theorem g_getS (C : CX g x own cc nL d mc ms) (T : dck cc tb = true) {idx ci k r : Nat} {v : Value} (hi : tb[i]? = some (pc, .getfield idx, 3)) (hF : FLD own idx ci k) (hk : kd y r = (0, ci)) (hv : slot g y M r ci k = va g v) (kk : GG g x nL Q kc ks y M (pc + 3) L (v :: S)) : GG g x nL Q kc ks y M pc L (.ref r :: S) := by
  intro H locs ls h1 h2 h4
  obtain ⟨q, hc, hkN, hlk⟩ := hF
  have he : (wld g y M)[r - 1]? = some (ad g r, .inr (ci, (List.range (nfl ci)).map (slot g y M r ci))) := wld_get (g := g) (M := M) hk (show (0 : Nat) ≠ 9 by decide) h1.2
  have hfs : ((List.range (nfl ci)).map (slot g y M r ci))[k]? = some (va g v) := by rw [fs_get _ (by rw [hc.2.2.2.2]; exact hkN), hv]
  have kk' := kk H locs ls h1 h2 h4
  rcases hlk with hl | ⟨host, hl⟩
  · exact va_get (C := q.1) (T := q.2.1) (N := q.2.2) C.1 C.2.1 (C.uws hc) (fun w h => h) C.2.2.2.1 C.K h1.1 (r - 1) he hc.1 k hkN (C.word hl rfl) (fun _ h => h) hfs (dcg T hi) kk'
  · exact va_getN (C := q.1) (T := q.2.1) (N := q.2.2) C.1 C.2.1 (C.uws hc) (fun w h => h) C.2.2.2.1 C.K h1.1 (r - 1) he hc.1 k hkN (C.nestF hl) (fun _ h => h) hfs (dcg T hi) kk'
theorem g_getI (C : CX g x own cc nL d mc ms) (T : dck cc tb = true) {idx ci k r : Nat} (hi : tb[i]? = some (pc, .getfield idx, 3)) (hF : FLD own idx ci k) (ht : ftag ci k = 0) (hk : kd y r = (0, ci)) (kk : GG g x nL Q kc ks y M (pc + 3) L (.int (M.1 r k) :: S)) : GG g x nL Q kc ks y M pc L (.ref r :: S) :=
  g_getS C T hi hF hk (v := .int (M.1 r k)) (by unfold slot; rw [if_pos ht]; rfl) kk
theorem g_getR (C : CX g x own cc nL d mc ms) (T : dck cc tb = true) {idx ci k r : Nat} (hi : tb[i]? = some (pc, .getfield idx, 3)) (hF : FLD own idx ci k) (ht : ftag ci k = 1) (hk : kd y r = (0, ci)) (hn : ¬ y.2.1 r k = 0) (kk : GG g x nL Q kc ks y M (pc + 3) L (.ref (y.2.1 r k) :: S)) : GG g x nL Q kc ks y M pc L (.ref r :: S) :=
  g_getS C T hi hF hk (v := .ref (y.2.1 r k)) (by unfold slot rfv; rw [if_neg (by rw [ht]; decide), if_pos ht, if_neg hn]) kk
theorem g_getM (C : CX g x own cc nL d mc ms) (T : dck cc tb = true) {idx ci k r : Nat} (hi : tb[i]? = some (pc, .getfield idx, 3)) (hF : FLD own idx ci k) (ht : ftag ci k = 2) (hk : kd y r = (0, ci)) (hn : ¬ M.2.2 r k = 0) (kk : GG g x nL Q kc ks y M (pc + 3) L (.ref (M.2.2 r k) :: S)) : GG g x nL Q kc ks y M pc L (.ref r :: S) :=
  g_getS C T hi hF hk (v := .ref (M.2.2 r k)) (by unfold slot rfv; rw [if_neg (by rw [ht]; decide), if_neg (by rw [ht]; decide), if_neg hn]) kk
/-- writing a field that isn't final -/
theorem g_putS (C : CX g x own cc nL d mc ms) (T : dck cc tb = true) {idx ci k r : Nat} {v : Value} {ty : FieldType} {M' : Mem} (hi : tb[i]? = some (pc, .putfield idx, 3)) (hF : FLD own idx ci k) (hty : FLT ci k ty false) (hn : narrow ty (va g v) = va g v) (hfit : fits ty (va g v) = true) (hk : kd y r = (0, ci))
    (hs : slot g y M' r ci k = va g v) (ho : ∀ j, j ≠ k → slot g y M' r ci j = slot g y M r ci j) (hp : ∀ p, p ≠ r → ∀ c', entK g y M' p c' = entK g y M p c')
    (kk : GG g x nL Q kc ks y M' (pc + 3) L S) : GG g x nL Q kc ks y M pc L (v :: .ref r :: S) := by
  intro H locs ls h1 h2 h4
  obtain ⟨q, hc, hkN, hlk⟩ := hF
  obtain ⟨hty1, hty2⟩ := hty q hc.1
  have he : (wld g y M)[r - 1]? = some (ad g r, .inr (ci, (List.range (nfl ci)).map (slot g y M r ci))) := wld_get (g := g) (M := M) hk (show (0 : Nat) ≠ 9 by decide) h1.2
  have hfs : ((List.range (nfl ci)).map (slot g y M r ci)).set k (va g v) = (List.range (nfl ci)).map (slot g y M' r ci) := fs_set _ _ _ _ _ hs ho
  have hw : (wld g y M).set (r - 1) (ad g r, .inr (ci, ((List.range (nfl ci)).map (slot g y M r ci)).set k (va g v))) = wld g y M' := wld_set (g := g) (M := M) (M' := M') hk (show (0 : Nat) ≠ 9 by decide) h1.2 (by rw [hfs]; rfl) hp
  have hl : k < ((List.range (nfl ci)).map (slot g y M r ci)).length := by rw [List.length_map, List.length_range, hc.2.2.2.2]; exact hkN
  obtain ⟨ty0, hty0⟩ := hc.2.2.1
  have fin : ∀ (H1 : Heap) (locs1 : List Loc), va_P g.2.1 vwCl ((wld g y M).set (r - 1) (ad g r, .inr (ci, ((List.range (nfl ci)).map (slot g y M r ci)).set k (va g v)))) H1 → va_D (Ag g) ((wld g y M).set (r - 1) (ad g r, .inr (ci, ((List.range (nfl ci)).map (slot g y M r ci)).set k (va g v)))) → va_S (Ag g) x.2.2.2.2.1.heap H1 locs1 → WX x H1 locs1 kc ks Q (F0 x.2.2.2.2.2.1 (pc + 3) ls (S.map (va g))) := fun H1 locs1 a b c => kk H1 locs1 ls ⟨by rw [← hw]; exact a, h1.2⟩ c h4
  rcases hlk with hlk | ⟨host, hlk⟩
  · exact va_put (C := q.1) (T := q.2.1) (N := q.2.2) C.1 C.2.1 (C.uws hc) (fun w h => h) ty0 hty0 hc.2.2.2.1 C.2.2.2.1 C.K h1.1 wld_D h2 (r - 1) he hc.1 k hkN (C.word hlk rfl) (fun _ h => h) hty2 hty1 hn hfit hl (dcg T hi) fin
  · exact va_putN (C := q.1) (T := q.2.1) (N := q.2.2) C.1 C.2.1 (C.uws hc) (fun w h => h) ty0 hty0 hc.2.2.2.1 C.2.2.2.1 C.K h1.1 wld_D h2 (r - 1) he hc.1 k hkN (C.nestF hlk) (fun _ h => h) hty2 hty1 hn hfit hl (dcg T hi) fin
theorem g_putI (C : CX g x own cc nL d mc ms) (T : dck cc tb = true) {idx ci k r : Nat} {v : Int32} (hi : tb[i]? = some (pc, .putfield idx, 3)) (hF : FLD own idx ci k) (hty : FLT ci k .int false) (ht : ftag ci k = 0) (hk : kd y r = (0, ci)) (kk : GG g x nL Q kc ks y (wI M r k v) (pc + 3) L S) : GG g x nL Q kc ks y M pc L (.int v :: .ref r :: S) :=
  g_putS C T (v := .int v) hi hF hty rfl rfl hk (by unfold slot; rw [if_pos ht]; show Value.int (u2 M.1 r k v r k) = _; rw [u2_s]; rfl) (fun j hj => by unfold slot; rw [show (wI M r k v).1 r j = M.1 r j from u2_k _ _ _ _ _ hj]; rfl) ent_wI kk
theorem g_putZ (C : CX g x own cc nL d mc ms) (T : dck cc tb = true) {idx ci k r : Nat} {v : Int32} (hi : tb[i]? = some (pc, .putfield idx, 3)) (hF : FLD own idx ci k) (hty : FLT ci k .boolean false) (ht : ftag ci k = 0) (hv : v = 0 ∨ v = 1) (hk : kd y r = (0, ci)) (kk : GG g x nL Q kc ks y (wI M r k v) (pc + 3) L S) : GG g x nL Q kc ks y M pc L (.int v :: .ref r :: S) :=
  g_putS C T (v := .int v) hi hF hty (by rcases hv with rfl | rfl <;> rfl) (by rcases hv with rfl | rfl <;> rfl) hk (by unfold slot; rw [if_pos ht]; show Value.int (u2 M.1 r k v r k) = _; rw [u2_s]; rfl) (fun j hj => by unfold slot; rw [show (wI M r k v).1 r j = M.1 r j from u2_k _ _ _ _ _ hj]; rfl) ent_wI kk
theorem g_putM (C : CX g x own cc nL d mc ms) (T : dck cc tb = true) {idx ci k r v : Nat} {ty : FieldType} (hi : tb[i]? = some (pc, .putfield idx, 3)) (hF : FLD own idx ci k) (hty : FLT ci k ty false) (hr : (∃ s, ty = .object s) ∨ ∃ s, ty = .array s) (ht : ftag ci k = 2) (hv : ¬ v = 0) (hk : kd y r = (0, ci)) (kk : GG g x nL Q kc ks y (wR M r k v) (pc + 3) L S) : GG g x nL Q kc ks y M pc L (.ref v :: .ref r :: S) :=
  g_putS C T (v := .ref v) hi hF hty (by rcases hr with ⟨s, rfl⟩ | ⟨s, rfl⟩ <;> rfl) (by rcases hr with ⟨s, rfl⟩ | ⟨s, rfl⟩ <;> rfl) hk (by unfold slot; rw [if_neg (by rw [ht]; decide), if_neg (by rw [ht]; decide)]; show va g (rfv (u2 M.2.2 r k v r k)) = _; rw [u2_s]; unfold rfv; rw [if_neg hv]) (fun j hj => by unfold slot; rw [show (wR M r k v).2.2 r j = M.2.2 r j from u2_k _ _ _ _ _ hj]; rfl) ent_wR kk
-- arrays
theorem g_iald (C : CX g x own cc nL d mc ms) (T : dck cc tb = true) {r : Nat} {j : Int32} (hi : tb[i]? = some (pc, .iaload, 1)) (hk : (kd y r).1 = 1 ∧ ¬ (j < 0 ∨ (kd y r).2 ≤ j.toNatClampNeg)) (kk : GG g x nL Q kc ks y M (pc + 1) L (.int (M.1 r j.toNatClampNeg) :: S)) : GG g x nL Q kc ks y M pc L (.int j :: .ref r :: S) := by
  intro H locs ls h1 h2 h4
  have he := wld_get (g := g) (M := M) (r := r) (c := kd y r) rfl (by rw [hk.1]; decide) h1.2
  unfold entK at he
  rw [if_neg (by rw [hk.1]; decide), if_pos hk.1] at he
  exact va_iald C.1 C.2.1 C.K h1.1 (r - 1) 0 he rfl hk.2 (dcg T hi) (kk H locs ls h1 h2 h4)
theorem g_bald (C : CX g x own cc nL d mc ms) (T : dck cc tb = true) {r : Nat} {j : Int32} (hi : tb[i]? = some (pc, .baload, 1)) (hk : (kd y r).1 = 2 ∧ ¬ (j < 0 ∨ (kd y r).2 ≤ j.toNatClampNeg)) (kk : GG g x nL Q kc ks y M (pc + 1) L (.int (M.1 r j.toNatClampNeg) :: S)) : GG g x nL Q kc ks y M pc L (.int j :: .ref r :: S) := by
  intro H locs ls h1 h2 h4
  have he := wld_get (g := g) (M := M) (r := r) (c := kd y r) rfl (by rw [hk.1]; decide) h1.2
  unfold entK at he
  rw [if_neg (by rw [hk.1]; decide), if_neg (by rw [hk.1]; decide), if_pos hk.1] at he
  exact va_bald C.1 C.2.1 C.K h1.1 (r - 1) 1 he rfl hk.2 (dcg T hi) (kk H locs ls h1 h2 h4)
theorem g_lald (C : CX g x own cc nL d mc ms) (T : dck cc tb = true) {r : Nat} {j : Int32} (hi : tb[i]? = some (pc, .laload, 1)) (hk : (kd y r).1 = 3 ∧ ¬ (j < 0 ∨ (kd y r).2 ≤ j.toNatClampNeg)) (kk : GG g x nL Q kc ks y M (pc + 1) L (.long (M.2.1 r j.toNatClampNeg) :: S)) : GG g x nL Q kc ks y M pc L (.int j :: .ref r :: S) := by
  intro H locs ls h1 h2 h4
  have he := wld_get (g := g) (M := M) (r := r) (c := kd y r) rfl (by rw [hk.1]; decide) h1.2
  unfold entK at he
  rw [if_neg (by rw [hk.1]; decide), if_neg (by rw [hk.1]; decide), if_neg (by rw [hk.1]; decide), if_pos hk.1] at he
  exact va_lald C.1 C.2.1 C.K h1.1 (r - 1) 2 he rfl hk.2 (dcg T hi) (kk H locs ls h1 h2 h4)
theorem g_aald (C : CX g x own cc nL d mc ms) (T : dck cc tb = true) {r : Nat} {j : Int32} (hi : tb[i]? = some (pc, .aaload, 1)) (hk : (kd y r).1 = 4 ∧ ¬ (j < 0 ∨ (kd y r).2 ≤ j.toNatClampNeg)) (hn : ¬ y.2.1 r j.toNatClampNeg = 0) (kk : GG g x nL Q kc ks y M (pc + 1) L (.ref (y.2.1 r j.toNatClampNeg) :: S)) : GG g x nL Q kc ks y M pc L (.int j :: .ref r :: S) := by
  intro H locs ls h1 h2 h4
  have he := wld_get (g := g) (M := M) (r := r) (c := kd y r) rfl (by rw [hk.1]; decide) h1.2
  unfold entK at he
  rw [if_neg (by rw [hk.1]; decide), if_neg (by rw [hk.1]; decide), if_neg (by rw [hk.1]; decide), if_neg (by rw [hk.1]; decide)] at he
  refine va_aldq C.1 C.2.1 C.K h1.1 (r - 1) 3 he rfl hk.2 (dcg T hi) ?_
  have e : ado g (y.2.1 r j.toNatClampNeg) = some (ad g (y.2.1 r j.toNatClampNeg)) := if_neg hn
  simp only [e]
  exact kk H locs ls h1 h2 h4
theorem g_alen (C : CX g x own cc nL d mc ms) (T : dck cc tb = true) {r t : Nat} (hi : tb[i]? = some (pc, .arraylength, 1)) (hk : (kd y r).1 = t) (ht : t = 1 ∨ t = 2 ∨ t = 3 ∨ t = 4) (kk : GG g x nL Q kc ks y M (pc + 1) L (.int (Int32.ofNat (kd y r).2) :: S)) : GG g x nL Q kc ks y M pc L (.ref r :: S) := by
  intro H locs ls h1 h2 h4
  have he := wld_get (g := g) (M := M) (r := r) (c := kd y r) rfl (by rw [hk]; rcases ht with rfl | rfl | rfl | rfl <;> decide) h1.2
  have kk' := kk H locs ls h1 h2 h4
  rcases ht with rfl | rfl | rfl | rfl <;> simp [entK, hk] at he
  · exact va_alen C.1 C.2.1 C.K h1.1 (r - 1) 0 he rfl rfl (dcg T hi) kk'
  · exact va_alen C.1 C.2.1 C.K h1.1 (r - 1) 1 he rfl rfl (dcg T hi) kk'
  · exact va_alen C.1 C.2.1 C.K h1.1 (r - 1) 2 he rfl rfl (dcg T hi) kk'
  · exact va_alen C.1 C.2.1 C.K h1.1 (r - 1) 3 he rfl rfl (dcg T hi) kk'
theorem g_iast (C : CX g x own cc nL d mc ms) (T : dck cc tb = true) {r : Nat} {j v : Int32} (hi : tb[i]? = some (pc, .iastore, 1)) (hk : (kd y r).1 = 1 ∧ ¬ (j < 0 ∨ (kd y r).2 ≤ j.toNatClampNeg)) (kk : GG g x nL Q kc ks y (wI M r j.toNatClampNeg v) (pc + 1) L S) : GG g x nL Q kc ks y M pc L (.int v :: .int j :: .ref r :: S) := by
  intro H locs ls h1 h2 h4
  have he := wld_get (g := g) (M := M) (r := r) (c := kd y r) rfl (by rw [hk.1]; decide) h1.2
  have hw : (wld g y M).set (r - 1) (ad g r, .inl (g.2.2.1 0, (kd y r).2, .inl (upd (M.1 r) j.toNatClampNeg v))) = wld g y (wI M r j.toNatClampNeg v) :=
    wld_set (c := kd y r) rfl (by rw [hk.1]; decide) h1.2 (by unfold entK; rw [if_neg (by rw [hk.1]; decide), if_pos hk.1]; show Sum.inl (_, _, Sum.inl (u2 M.1 r _ v r)) = _; rw [u2_row]) ent_wI
  unfold entK at he
  rw [if_neg (by rw [hk.1]; decide), if_pos hk.1] at he
  exact va_iast C.1 C.2.1 C.K h1.1 wld_D h2 (r - 1) 0 he rfl hk.2 (dcg T hi) (fun H1 locs1 a b c => kk H1 locs1 ls ⟨by rw [← hw]; exact a, h1.2⟩ c h4)
theorem g_bast (C : CX g x own cc nL d mc ms) (T : dck cc tb = true) {r : Nat} {j v : Int32} (hi : tb[i]? = some (pc, .bastore, 1)) (hk : (kd y r).1 = 2 ∧ ¬ (j < 0 ∨ (kd y r).2 ≤ j.toNatClampNeg)) (kk : GG g x nL Q kc ks y (wI M r j.toNatClampNeg v.toInt8.toInt32) (pc + 1) L S) : GG g x nL Q kc ks y M pc L (.int v :: .int j :: .ref r :: S) := by
  intro H locs ls h1 h2 h4
  have he := wld_get (g := g) (M := M) (r := r) (c := kd y r) rfl (by rw [hk.1]; decide) h1.2
  have hw : (wld g y M).set (r - 1) (ad g r, .inl (g.2.2.1 1, (kd y r).2, .inl (upd (M.1 r) j.toNatClampNeg (vp_nar .byte v)))) = wld g y (wI M r j.toNatClampNeg v.toInt8.toInt32) :=
    wld_set (c := kd y r) rfl (by rw [hk.1]; decide) h1.2 (by unfold entK; rw [if_neg (by rw [hk.1]; decide), if_neg (by rw [hk.1]; decide), if_pos hk.1]; show Sum.inl (_, _, Sum.inl (u2 M.1 r _ _ r)) = _; rw [u2_row, vp_nar_byte]) ent_wI
  unfold entK at he
  rw [if_neg (by rw [hk.1]; decide), if_neg (by rw [hk.1]; decide), if_pos hk.1] at he
  exact va_bast C.1 C.2.1 C.K h1.1 wld_D h2 (r - 1) 1 he rfl hk.2 (dcg T hi) (fun H1 locs1 a b c => kk H1 locs1 ls ⟨by rw [← hw]; exact a, h1.2⟩ c h4)
theorem g_last (C : CX g x own cc nL d mc ms) (T : dck cc tb = true) {r : Nat} {j : Int32} {v : Int64} (hi : tb[i]? = some (pc, .lastore, 1)) (hk : (kd y r).1 = 3 ∧ ¬ (j < 0 ∨ (kd y r).2 ≤ j.toNatClampNeg)) (kk : GG g x nL Q kc ks y (wL M r j.toNatClampNeg v) (pc + 1) L S) : GG g x nL Q kc ks y M pc L (.long v :: .int j :: .ref r :: S) := by
  intro H locs ls h1 h2 h4
  have he := wld_get (g := g) (M := M) (r := r) (c := kd y r) rfl (by rw [hk.1]; decide) h1.2
  have hw : (wld g y M).set (r - 1) (ad g r, .inl (g.2.2.1 2, (kd y r).2, .inr (.inl (vp_updL (M.2.1 r) j.toNatClampNeg v)))) = wld g y (wL M r j.toNatClampNeg v) :=
    wld_set (c := kd y r) rfl (by rw [hk.1]; decide) h1.2 (by unfold entK; rw [if_neg (by rw [hk.1]; decide), if_neg (by rw [hk.1]; decide), if_neg (by rw [hk.1]; decide), if_pos hk.1]; show Sum.inl (_, _, Sum.inr (Sum.inl (u2 M.2.1 r _ _ r))) = _; rw [u2_rowL]) ent_wL
  unfold entK at he
  rw [if_neg (by rw [hk.1]; decide), if_neg (by rw [hk.1]; decide), if_neg (by rw [hk.1]; decide), if_pos hk.1] at he
  exact va_last C.1 C.2.1 C.K h1.1 wld_D h2 (r - 1) 2 he rfl hk.2 (dcg T hi) (fun H1 locs1 a b c => kk H1 locs1 ls ⟨by rw [← hw]; exact a, h1.2⟩ c h4)
end GF3
end
section
/-! ===== contracts of methods that throw nothing and make nothing; their start, end and call ===== -/
def pm (M : Mem) (f : Option Int32) : Option (Int32 × Mem) := f.map (fun r => (r, M))
theorem pm_e {M : Mem} {f : Option Int32} {o : Int32 × Mem} (h : pm M f = some o) : ∃ r, f = some r ∧ o = (r, M) := by
  unfold pm at h
  cases f with
  | none => cases h
  | some r => cases h; exact ⟨r, rfl, rfl⟩
theorem pm_s {M : Mem} {f : Option Int32} {r : Int32} (h : f = some r) : pm M f = some (r, M) := by rw [h]; rfl
/-- a pure call -/
def cp {β : Type} (x : Option Int32) (k : Int32 → Option β) : Option β := match x with
  | some r => k r
  | none => none
theorem cp_e {β : Type} {x : Option Int32} {k : Int32 → Option β} {o : β} (h : cp x k = some o) : ∃ r, x = some r ∧ k r = some o := by
  unfold cp at h; split at h
  · exact ⟨_, rfl, h⟩
  · cases h
def resv (rv : Bool) (r : Int32) : List Value := if rv then [.int r] else []
def QK (g : GX) (rv : Bool) (y : Lay) (out : Int32 × Mem) : Array Value → State → Outcome → State → Prop := fun _ st o t => o = .returned (if rv then some (.int out.1) else none) ∧ RelH g y out.2 t.heap ∧ va_F (Ag g) st t
def PK (g : GX) (y : Lay) (av : List Value) (M : Mem) : Array Value → State → Prop := fun v U => v = (av.map (va g)).toArray ∧ RelH g y M U.heap ∧ g.1.WarmedH U.vm ∧ bs g ≤ U.heap.size ∧ ∀ q, q < bs g → U.heap[q]? = g.1.heap[q]?
theorem PK_blind {g : GX} {y : Lay} {av : List Value} {M : Mem} : FrameBlind (PK g y av M) := fun _ _ _ _ h => h
def C0 (g : GX) (l : Launch) (yn : MethodName) (cc : ByteArray) (maxL : Nat) (ret : Option FieldType) (d : Nat) (y : Lay) (av : List Value) (M : Mem) (f : Option (Int32 × Mem)) : Prop :=
  ∀ out, f = some out → Met l yn [Cond.code yn cc maxL ret] (rmD d 0 0) (PK g y av M) (QK g ret.isSome y out) 0 0 (Ag g)
/-- what a body owes at its end -/
def RT0 (g : GX) (x : KX) (Q : State → Prop) (ret : Option FieldType) (y : Lay) (out : Int32 × Mem) : Prop :=
  Q = MQ x.2.2.2.2.2.2.2.1 (QK g ret.isSome y out) x.2.2.2.2.2.2.1 x.2.2.2.2.1 0 0 (Ag g) ∧ x.2.2.2.2.2.2.2.2.1.sig.returnType = ret
def argL (av : List Value) : List (Option Value) := av.flatMap (fun v => if v.category = 2 then [some v, none] else [some v])
theorem lvl_none {g : GX} (n : Nat) : ∀ k, lvl g k (List.replicate n none) = [] := by
  induction n with
  | zero => intro k; rfl
  | succ n ih => intro k; exact ih (k + 1)
theorem lvl_args {g : GX} {n : Nat} : ∀ (av : List Value) (k : Nat), lvl g k (argL av ++ List.replicate n none) = lv_args k (av.map (va g)) := by
  intro av
  induction av with
  | nil => intro k; exact lvl_none n k
  | cons v av ih =>
    intro k
    have hc := va_cat (g := g) v
    show lvl g k (argL (v :: av) ++ _) = _
    have e : argL (v :: av) = (if v.category = 2 then [some v, none] else [some v]) ++ argL av := rfl
    rw [e]
    by_cases h : v.category = 2
    · rw [if_pos h]
      show (k, va g v) :: lvl g (k + 1 + 1) (argL av ++ _) = lv_args k (va g v :: av.map (va g))
      rw [ih]
      simp [lv_args, hc, h]
    · rw [if_neg h]
      show (k, va g v) :: lvl g (k + 1) (argL av ++ _) = lv_args k (va g v :: av.map (va g))
      rw [ih]
      simp [lv_args, hc, h]
theorem sl_len {g : GX} : ∀ av : List Value, (lg_sl (av.map (va g))).length = (argL av).length := by
  intro av
  induction av with
  | nil => rfl
  | cons v av ih =>
    have e1 : lg_sl ((v :: av).map (va g)) = (if (va g v).category = 2 then [.val (va g v), .second] else [.val (va g v)]) ++ lg_sl (av.map (va g)) := rfl
    have e2 : argL (v :: av) = (if v.category = 2 then [some v, none] else [some v]) ++ argL av := rfl
    rw [e1, e2, List.length_append, List.length_append, ih, va_cat]
    congr 1
    split <;> rfl
/-- the start of a walk -/
theorem start_LV {g : GX} {av : List Value} {maxL : Nat} {L0 : List (Option Value)} (hL : argL av ++ List.replicate (maxL - (argL av).length) none = L0) (hn : (argL av).length ≤ maxL) : LV g maxL ((lg_sl (av.map (va g)) ++ List.replicate (maxL - (lg_sl (av.map (va g))).length) Slot.unset).toArray) L0 := by
  subst hL
  refine ⟨?_, ?_⟩
  · rw [lvl_args]
    exact lv_entry _ (by rw [sl_len]; exact hn)
  · rw [List.length_append, List.length_replicate]; omega
theorem C0_of {g : GX} {l : Launch} {yn : MethodName} {cc : ByteArray} {maxL : Nat} {ret : Option FieldType} {d : Nat} {y : Lay} {av : List Value} {M : Mem} {f : Option (Int32 × Mem)} (hG : GF g l) (hy : plainName yn.cls = true) (L0 : List (Option Value)) (hL : argL av ++ List.replicate (maxL - (argL av).length) none = L0) (hn : Nat.ble (argL av).length maxL = true)
    (body : ∀ out, f = some out → ∀ (x : KX) (Q : State → Prop), CX g x yn.cls cc maxL d 0 0 → RT0 g x Q ret y out → GG g x maxL Q 0 0 y M 0 L0 []) : C0 g l yn cc maxL ret d y av M f := by
  intro out hf
  refine Met.ofW (cc := cc) (maxL := maxL) (ret := ret) hy rfl ?_
  intro p e s m args below meth c s₁ B hml hP
  obtain ⟨rfl, hR, hW, hb, hlow⟩ := hP
  have C : CX g (p, l, e, rmD d 0 0, s, m, (av.map (va g)).toArray, below, meth, c) yn.cls cc maxL d 0 0 := ⟨B.exec, B.bytes, hml, findClass_of_methodNamed B.named, B.notSynchronized, ⟨Nat.le_refl _, Nat.le_refl _, rfl, rfl⟩, hG, hW, hb, hlow⟩
  rw [lg_entry_eq]
  exact body out hf _ _ C ⟨rfl, B.returns⟩ s.heap [] _ hR va_S.rf (start_LV hL (Nat.le_of_ble_eq_true hn))
section GR4
variable {g : GX} {x : KX} {own : String} {cc : ByteArray} {nL d mc ms : Nat} {Q : State → Prop} {kc ks : Nat} {y : Lay} {M : Mem} {pc i : Nat} {L : List (Option Value)} {S : List Value} {tb : Tb}
theorem g_iret0 (C : CX g x own cc nL d mc ms) {e : Int32} (R : RT0 g x Q (some .int) y (e, M)) (T : dck cc tb = true) (hi : tb[i]? = some (pc, .ireturn, 1)) : GG g x nL Q 0 0 y M pc L [.int e] := by
  intro H locs ls h1 h2 h4
  obtain ⟨rfl, hr⟩ := R
  exact W.iret C.1 C.2.1 hr (fun t ht hw => ⟨rfl, by rw [ht]; exact h1, h2.F ht⟩) (fun q hq => h2.2.2 q hq) (dcg T hi) C.2.2.2.2.1
theorem g_zret0 (C : CX g x own cc nL d mc ms) {e : Int32} (R : RT0 g x Q (some .boolean) y (e, M)) (he : e = 0 ∨ e = 1) (T : dck cc tb = true) (hi : tb[i]? = some (pc, .ireturn, 1)) : GG g x nL Q 0 0 y M pc L [.int e] := by
  intro H locs ls h1 h2 h4
  obtain ⟨rfl, hr⟩ := R
  exact W.zret C.1 C.2.1 hr (by rcases he with rfl | rfl <;> rfl) (fun t ht hw => ⟨rfl, by rw [ht]; exact h1, h2.F ht⟩) (fun q hq => h2.2.2 q hq) (dcg T hi) C.2.2.2.2.1
theorem g_vret0 (C : CX g x own cc nL d mc ms) {e : Int32} (R : RT0 g x Q none y (e, M)) (T : dck cc tb = true) (hi : tb[i]? = some (pc, .return_, 1)) : GG g x nL Q 0 0 y M pc L [] := by
  intro H locs ls h1 h2 h4
  obtain ⟨rfl, hr⟩ := R
  exact W.vret C.1 C.2.1 hr (fun t ht hw => ⟨rfl, by rw [ht]; exact h1, h2.F ht⟩) (fun q hq => h2.2.2 q hq) (dcg T hi) C.2.2.2.2.1
/-- a callee's own words -/
def MW (yn : MethodName) (cc : ByteArray) (maxL : Nat) (ret : Option FieldType) (n : Nat) : Prop :=
  Cond.code yn cc maxL ret ∈ lw_tbl ∧ Cond.initialized yn.cls ∈ lw_tbl ∧ (yn.cls ≠ "java/lang/invoke/MethodHandle" ∧ yn.cls ≠ "java/lang/invoke/VarHandle") ∧ (parseMethodDescriptor yn.desc).map (fun d => d.parameters.length) = some n
/-- its words as an instance method, picked by its class's number -/
def MV (ci : Nat) (yn : MethodName) : Prop := Cond.instanceMethod yn ∈ lw_tbl ∧ Cond.selects yn.cls yn yn ∈ lw_tbl ∧ (vwCl[ci]?).map (fun q => q.1) = some yn.cls
theorem callB0 (C : CX g x own cc nL d mc ms) {idx : Nat} {yn : MethodName} {c2 : ByteArray} {maxL n d2 m2 s2 : Nat} {ret : Option FieldType} (hW : MW yn c2 maxL ret n) (hl : Cond.methodLink own idx yn ∈ lw_tbl) (hd : Nat.ble (d2 + 1) d = true) (hm : Nat.ble maxL 80 = true) :
    CallB x.2.2.2.1 x.2.2.2.2.1 x.2.2.2.2.2.2.1 own idx yn c2 maxL ret [Cond.code yn c2 maxL ret] (rmD d2 m2 s2) m2 s2 n := by
  have h1 : d2 + 1 ≤ d := Nat.le_of_ble_eq_true hd
  have h2 : maxL ≤ 80 := Nat.le_of_ble_eq_true hm
  have h3 : 8 + (maxL + 11) + (100 * d2 + 300) ≤ 100 * d + 300 := by omega
  have h4 : d2 + 10 + 1 ≤ d + 10 := by omega
  obtain ⟨r1, r2, -, -⟩ : RLE x.2.2.2.1 d mc ms := C.2.2.2.2.2.1
  refine ⟨rfl, rfl, ?_, ?_, ?_, List.mem_singleton_self _, C.word hW.1 rfl, C.word hW.2.1 rfl, hW.2.2.1, ?_, C.word hl rfl⟩
  · exact Nat.le_trans h4 r1
  · exact Nat.le_trans h3 r2
  · intro w hw a' U hWm
    rw [List.mem_singleton.mp hw]
    exact word_at hWm (good_of_word rfl) (C.word hW.1 rfl)
  · intro sig h
    have h3 := hW.2.2.2
    rw [h] at h3
    exact (Option.some.inj h3).symm
theorem preV0 (C : CX g x own cc nL d mc ms) {H : Heap} {locs : List Loc} {ci b : Nat} {yn : MethodName} {av : List Value} (h1 : RelH g y M H) (h2 : va_S (Ag g) x.2.2.2.2.1.heap H locs) (hk : kd y b = (0, ci)) (hv : MV ci yn) : PreV x.2.2.2.2.1 H yn.cls (ad g b) (PK g y (.ref b :: av) M) (av.map (va g)) := by
  have he : (wld g y M)[b - 1]? = some (ad g b, .inr (ci, (List.range (nfl ci)).map (slot g y M b ci))) := wld_get (g := g) (M := M) hk (show (0 : Nat) ≠ 9 by decide) h1.2
  obtain ⟨r, hr, cell, c1, c2, c3, -⟩ := h1.1 (b - 1) _ he
  have hcl : r.1 = yn.cls := by
    have h3 := hv.2.2
    rw [hr] at h3
    exact Option.some.inj h3
  refine ⟨PK_blind, ⟨cell, c1, by rw [c3]; rfl, ?_⟩, fun U hU hW => ⟨rfl, by rw [hU]; exact h1, State.WarmedH.trans C.2.2.2.2.2.2.2.1 hW, ?_, ?_⟩⟩
  · rw [c2, ← hcl]
    have := (C.K.1 ci r hr).2
    exact this.1
  · rw [hU]; exact Nat.le_trans C.2.2.2.2.2.2.2.2.1 h2.1
  · intro q hq
    rw [hU, h2.2.1 q (Nat.lt_of_lt_of_le hq C.2.2.2.2.2.2.2.2.1) (Nat.not_le.mpr hq)]
    exact C.2.2.2.2.2.2.2.2.2 q hq
theorem preS0 (C : CX g x own cc nL d mc ms) {H : Heap} {locs : List Loc} {av : List Value} (h1 : RelH g y M H) (h2 : va_S (Ag g) x.2.2.2.2.1.heap H locs) : PreS x.2.2.2.2.1 H (PK g y av M) (av.map (va g)) := by
  refine ⟨PK_blind, fun U hU hW => ⟨rfl, by rw [hU]; exact h1, State.WarmedH.trans C.2.2.2.2.2.2.2.1 hW, ?_, ?_⟩⟩
  · rw [hU]; exact Nat.le_trans C.2.2.2.2.2.2.2.2.1 h2.1
  · intro q hq
    rw [hU, h2.2.1 q (Nat.lt_of_lt_of_le hq C.2.2.2.2.2.2.2.2.1) (Nat.not_le.mpr hq)]
    exact C.2.2.2.2.2.2.2.2.2 q hq
/-- behind a call -/
theorem after0 {H : Heap} {locs : List Loc} {ls : Array Slot} {rv : Bool} {M1 : Mem} {r : Int32} {a : Array Value} {st0 : List Value} (h2 : va_S (Ag g) x.2.2.2.2.1.heap H locs) (h4 : LV g nL ls L)
    (hr : va_Run x.1 x.2.1 x.2.2.1 x.2.2.2.1 x.2.2.2.2.1 x.2.2.2.2.2.1 x.2.2.2.2.2.2.1 x.2.2.2.2.2.2.2.1 x.2.2.2.2.2.2.2.2.1 x.2.2.2.2.2.2.2.2.2 H locs kc ks mc ms (F0 x.2.2.2.2.2.1 pc ls st0) (S.map (va g)) (QK g rv y (r, M1) a) (Ag g))
    (k : GG g x nL Q (kc + mc) (ks + ms) y M1 (pc + 3) L (resv rv r ++ S)) : WX x H locs kc ks Q (F0 x.2.2.2.2.2.1 pc ls st0) := by
  intro T hT X
  obtain ⟨v, st₀, t, T', L', h0, X', hL, e1, e2, ⟨hv, hR, hF⟩, st⟩ := hr T hT X
  have hS : va_S (Ag g) x.2.2.2.2.1.heap T'.heap (locs ++ L') := by
    obtain ⟨hz, hk⟩ := hF
    rw [h0] at hz hk
    refine ⟨Nat.le_trans h2.1 (by rw [e1]; exact hz), fun q h5 h6 => ?_, fun q hq => ?_⟩
    · rw [e1, hk q (Nat.lt_of_lt_of_le h5 h2.1) h6]; exact h2.2.1 q h5 h6
    · rcases List.mem_append.mp hq with h | h
      · exact h2.2.2 q h
      · exact hL q h
  obtain ⟨t2, a1, b1⟩ := k T'.heap (locs ++ L') ls (by rw [e1]; exact hR) hS h4 T' rfl X'
  refine ⟨t2, st t2 ?_, b1⟩
  have ev : (if rv = true then some (Value.int r) else none).toList ++ S.map (va g) = (resv rv r ++ S).map (va g) := by
    cases rv <;> rfl
  cases hv
  show Steps _ _ _ (T'.setTop { F0 x.2.2.2.2.2.1 pc ls st0 with pc := pc + 3, stack := _ }) _
  rw [ev]
  exact a1
theorem g_callV0 (C : CX g x own cc nL d mc ms) (T : dck cc tb = true) {idx ci b n maxL d2 : Nat} {yn : MethodName} {c2 : ByteArray} {ret : Option FieldType} {f : Option (Int32 × Mem)} {r : Int32} {M1 : Mem} (av : List Value) (hi : tb[i]? = some (pc, .invokevirtual idx, 3)) (hW : MW yn c2 maxL ret n) (hV : MV ci yn) (hl : Cond.methodLink own idx yn ∈ lw_tbl) (hk : kd y b = (0, ci)) (hd : Nat.ble (d2 + 1) d = true) (hm : Nat.ble maxL 80 = true) (hn : av.length = n) (hS8 : Nat.ble ((S.map fun v => v.category).sum) 8 = true)
    (hc : C0 g x.2.1 yn c2 maxL ret d2 y (.ref b :: av) M f) (hf : f = some (r, M1)) (hkc : Nat.ble kc mc = true) (hks : Nat.ble ks ms = true) {S' : List Value} (hst : av.reverse ++ .ref b :: S = S') (k : GG g x nL Q kc ks y M1 (pc + 3) L (resv ret.isSome r ++ S)) : GG g x nL Q kc ks y M pc L S' := by
  intro H locs ls h1 h2 h4
  subst hst
  have hcw : CallW x.2.2.2.1 x.2.2.2.2.1 x.2.2.2.2.2.2.1 own yn.cls idx yn c2 maxL ret [Cond.code yn c2 maxL ret] (rmD d2 0 0) 0 0 n := ⟨callB0 C hW hl hd hm, C.word hV.1 rfl, C.word hV.2.1 rfl⟩
  have hR : RLE x.2.2.2.1 d mc ms := C.2.2.2.2.2.1
  refine after0 (mc := 0) (ms := 0) h2 h4 (va_runV ⟨C.1, C.2.1, C.2.2.1, C.2.2.2.1, fun w (hw : w ∈ ([] : List Cond)) => absurd hw List.not_mem_nil⟩ (hc _ hf) hcw (preV0 C h1 h2 hk hV) rfl ?_ h4.1.1 ?_ ?_ (dcg T hi) ?_) k
  · rw [List.length_map]; exact hn
  · show List.map (va g) (av.reverse ++ .ref b :: S) = (av.map (va g)).reverse ++ .ref (ad g b) :: S.map (va g)
    rw [List.map_append, List.map_reverse]; rfl
  · show 2 * 0 + _ ≤ 8
    have := Nat.le_of_ble_eq_true hS8
    rw [List.map_map]
    have e : (fun v => Value.category v) ∘ va g = fun v => v.category := by funext v; exact va_cat v
    rw [e]; omega
  · exact ⟨by rw [hR.2.2.1]; have := Nat.le_of_ble_eq_true hkc; omega, by rw [hR.2.2.2]; have := Nat.le_of_ble_eq_true hks; omega⟩
theorem g_callS0 (C : CX g x own cc nL d mc ms) (T : dck cc tb = true) {idx n maxL d2 : Nat} {yn : MethodName} {c2 : ByteArray} {ret : Option FieldType} {f : Option (Int32 × Mem)} {r : Int32} {M1 : Mem} (av : List Value) (hi : tb[i]? = some (pc, .invokestatic idx, 3)) (hW : MW yn c2 maxL ret n) (hV : Cond.static yn ∈ lw_tbl) (hl : Cond.methodLink own idx yn ∈ lw_tbl) (hd : Nat.ble (d2 + 1) d = true) (hm : Nat.ble maxL 80 = true) (hn : av.length = n) (hS8 : Nat.ble ((S.map fun v => v.category).sum) 8 = true)
    (hc : C0 g x.2.1 yn c2 maxL ret d2 y av M f) (hf : f = some (r, M1)) (hkc : Nat.ble kc mc = true) (hks : Nat.ble ks ms = true) {S' : List Value} (hst : av.reverse ++ S = S') (k : GG g x nL Q kc ks y M1 (pc + 3) L (resv ret.isSome r ++ S)) : GG g x nL Q kc ks y M pc L S' := by
  intro H locs ls h1 h2 h4
  subst hst
  have hR : RLE x.2.2.2.1 d mc ms := C.2.2.2.2.2.1
  refine after0 (mc := 0) (ms := 0) h2 h4 (va_runS ⟨C.1, C.2.1, C.2.2.1, C.2.2.2.1, fun w (hw : w ∈ ([] : List Cond)) => absurd hw List.not_mem_nil⟩ (hc _ hf) ⟨callB0 C hW hl hd hm, C.word hV rfl⟩ (preS0 C h1 h2) rfl ?_ h4.1.1 ?_ ?_ (dcg T hi) ?_) k
  · rw [List.length_map]; exact hn
  · show List.map (va g) (av.reverse ++ S) = (av.map (va g)).reverse ++ S.map (va g)
    rw [List.map_append, List.map_reverse]
  · show 2 * 0 + _ ≤ 8
    have := Nat.le_of_ble_eq_true hS8
    rw [List.map_map]
    have e : (fun v => Value.category v) ∘ va g = fun v => v.category := by funext v; exact va_cat v
    rw [e]; omega
  · exact ⟨by rw [hR.2.2.1]; have := Nat.le_of_ble_eq_true hkc; omega, by rw [hR.2.2.2]; have := Nat.le_of_ble_eq_true hks; omega⟩
end GR4
end
section
/-! ===== methods that may throw; the machine's own helpers ===== -/
def jmin (a b : Int32) : Int32 := if b < a then b else a
def jmax (a b : Int32) : Int32 := if a < b then b else a
def jabs (a : Int32) : Int32 := if 0 ≤ a then a else 0 - a
def gC {β : Type} (y : Lay) (a b : Nat) (sp dp n : Int32) (k : Option β) : Option β := if ((kd y a).1 = 1 ∧ (kd y b).1 = 1) ∧ (¬ sp < 0 ∧ ¬ dp < 0 ∧ ¬ n < 0) ∧ sp.toNatClampNeg + n.toNatClampNeg ≤ (kd y a).2 ∧ dp.toNatClampNeg + n.toNatClampNeg ≤ (kd y b).2 then k else none
theorem gC_e {β : Type} {y : Lay} {a b : Nat} {sp dp n : Int32} {k : Option β} {o : β} (h : gC y a b sp dp n k = some o) : (((kd y a).1 = 1 ∧ (kd y b).1 = 1) ∧ (¬ sp < 0 ∧ ¬ dp < 0 ∧ ¬ n < 0) ∧ sp.toNatClampNeg + n.toNatClampNeg ≤ (kd y a).2 ∧ dp.toNatClampNeg + n.toNatClampNeg ≤ (kd y b).2) ∧ k = some o := by
  unfold gC at h; split at h
  · exact ⟨by assumption, h⟩
  · cases h
def cx (x : Option (Nat × Int32 × Mem)) (k : Int32 → Mem → Option (Nat × Int32 × Mem)) : Option (Nat × Int32 × Mem) := match x with
  | some (0, r, M) => k r M
  | some (e + 1, r, M) => some (e + 1, r, M)
  | none => none
theorem cx_e {x : Option (Nat × Int32 × Mem)} {k : Int32 → Mem → Option (Nat × Int32 × Mem)} {o : Nat × Int32 × Mem} (h : cx x k = some o) : (∃ r M, x = some (0, r, M) ∧ k r M = some o) ∨ (x = some o ∧ o.1 ≠ 0) := by
  unfold cx at h; split at h
  · exact Or.inl ⟨_, _, rfl, h⟩
  · cases h; exact Or.inr ⟨rfl, Nat.succ_ne_zero _⟩
  · cases h
def exNm (k : Nat) : String := if k = 1 then "java/util/NoSuchElementException" else "java/lang/IllegalArgumentException"
theorem ent_cp {g : GX} {y : Lay} {M : Mem} {a b sp dp n : Nat} : ∀ p, p ≠ b → ∀ c', entK g y (cpI M a b sp dp n) p c' = entK g y M p c' := by
  intro p hp c'
  have e : (cpI M a b sp dp n).1 p = M.1 p := if_neg hp
  have e2 : slot g y (cpI M a b sp dp n) p c'.2 = slot g y M p c'.2 := by funext j; unfold slot; rw [e]; rfl
  unfold entK
  rw [e, e2]; rfl
theorem RelH.mono {g : GX} {y : Lay} {M : Mem} {H H' : Heap} (h : RelH g y M H) (hk : ∀ q : Nat, q < H.size → H'[q]? = H[q]?) : RelH g y M H' :=
  ⟨fun k q hq => (h.1 k q hq).kept (hk _ (h.1 k q hq).lt), h.2⟩
def Q1 (g : GX) (rv : Bool) (y : Lay) (out : Nat × Int32 × Mem) : Array Value → State → Outcome → State → Prop := fun a st o t => out.1 = 0 ∧ QK g rv y out.2 a st o t
def X1 (g : GX) (y : Lay) (out : Nat × Int32 × Mem) : String → State → State → Prop := fun E st t => out.1 ≠ 0 ∧ E = exNm out.1 ∧ RelH g y out.2.2 t.heap ∧ va_F (Ag g) st t
def C1 (g : GX) (l : Launch) (yn : MethodName) (cc : ByteArray) (maxL : Nat) (ret : Option FieldType) (d mc ms : Nat) (y : Lay) (av : List Value) (M : Mem) (f : Option (Nat × Int32 × Mem)) : Prop :=
  ∀ out, f = some out → vx_Met l yn [Cond.code yn cc maxL ret] (rmD d mc ms) (PK g y av M) (Q1 g ret.isSome y out) (X1 g y out) mc ms (Ag g)
def RT1 (g : GX) (x : KX) (Q : State → Prop) (ret : Option FieldType) (mc ms : Nat) (y : Lay) (out : Nat × Int32 × Mem) : Prop :=
  Q = vx_MQ x.2.2.2.2.2.2.2.1 (Q1 g ret.isSome y out) (X1 g y out) x.2.2.2.2.2.2.1 x.2.2.2.2.1 mc ms (Ag g) ∧ x.2.2.2.2.2.2.2.2.1.sig.returnType = ret ∧ ∀ e ∈ x.2.2.2.2.2.2.2.2.2.exceptionTable.toList, False
theorem C1_of {g : GX} {l : Launch} {yn : MethodName} {cc : ByteArray} {maxL : Nat} {ret : Option FieldType} {d mc ms : Nat} {y : Lay} {av : List Value} {M : Mem} {f : Option (Nat × Int32 × Mem)} (hG : GF g l) (hy : plainName yn.cls = true) (L0 : List (Option Value)) (hL : argL av ++ List.replicate (maxL - (argL av).length) none = L0) (hn : Nat.ble (argL av).length maxL = true)
    (body : ∀ out, f = some out → ∀ (x : KX) (Q : State → Prop), CX g x yn.cls cc maxL d mc ms → RT1 g x Q ret mc ms y out → GG g x maxL Q 0 0 y M 0 L0 []) : C1 g l yn cc maxL ret d mc ms y av M f := by
  intro out hf
  refine vx_ofW (cc := cc) (maxL := maxL) (ret := ret) hy rfl ?_
  intro p e s m args below meth c s₁ B hml ht hP
  obtain ⟨rfl, hR, hW, hb, hlow⟩ := hP
  have C : CX g (p, l, e, rmD d mc ms, s, m, (av.map (va g)).toArray, below, meth, c) yn.cls cc maxL d mc ms := ⟨B.exec, B.bytes, hml, findClass_of_methodNamed B.named, B.notSynchronized, ⟨Nat.le_refl _, Nat.le_refl _, rfl, rfl⟩, hG, hW, hb, hlow⟩
  rw [lg_entry_eq]
  exact body out hf _ _ C ⟨rfl, B.returns, ht⟩ s.heap [] _ hR va_S.rf (start_LV hL (Nat.le_of_ble_eq_true hn))
section GR5
variable {g : GX} {x : KX} {own : String} {cc : ByteArray} {nL d mc ms : Nat} {Q : State → Prop} {kc ks : Nat} {y : Lay} {M : Mem} {pc i : Nat} {L : List (Option Value)} {S : List Value} {tb : Tb}
theorem g_widen {k2 s2 : Nat} (h1 : Nat.ble kc k2 = true) (h2 : Nat.ble ks s2 = true) (k : GG g x nL Q k2 s2 y M pc L S) : GG g x nL Q kc ks y M pc L S :=
  fun H locs ls a b c => W.widen (Nat.le_of_ble_eq_true h1) (Nat.le_of_ble_eq_true h2) (k H locs ls a b c)
theorem g_iret1 (C : CX g x own cc nL d mc ms) {e : Int32} (R : RT1 g x Q (some .int) mc ms y (0, e, M)) (h1 : Nat.ble kc mc = true) (h2 : Nat.ble ks ms = true) (T : dck cc tb = true) (hi : tb[i]? = some (pc, .ireturn, 1)) : GG g x nL Q kc ks y M pc L [.int e] := by
  refine g_widen h1 h2 ?_
  intro H locs ls h1 h2 h4
  obtain ⟨rfl, hr, -⟩ := R
  exact vx_ret (W.iret C.1 C.2.1 hr (fun t ht hw => ⟨rfl, rfl, by rw [ht]; exact h1, h2.F ht⟩) (fun q hq => h2.2.2 q hq) (dcg T hi) C.2.2.2.2.1)
theorem g_zret1 (C : CX g x own cc nL d mc ms) {e : Int32} (R : RT1 g x Q (some .boolean) mc ms y (0, e, M)) (he : e = 0 ∨ e = 1) (h1 : Nat.ble kc mc = true) (h2 : Nat.ble ks ms = true) (T : dck cc tb = true) (hi : tb[i]? = some (pc, .ireturn, 1)) : GG g x nL Q kc ks y M pc L [.int e] := by
  refine g_widen h1 h2 ?_
  intro H locs ls h1 h2 h4
  obtain ⟨rfl, hr, -⟩ := R
  exact vx_ret (W.zret C.1 C.2.1 hr (by rcases he with rfl | rfl <;> rfl) (fun t ht hw => ⟨rfl, rfl, by rw [ht]; exact h1, h2.F ht⟩) (fun q hq => h2.2.2 q hq) (dcg T hi) C.2.2.2.2.1)
theorem g_vret1 (C : CX g x own cc nL d mc ms) {e : Int32} (R : RT1 g x Q none mc ms y (0, e, M)) (h1 : Nat.ble kc mc = true) (h2 : Nat.ble ks ms = true) (T : dck cc tb = true) (hi : tb[i]? = some (pc, .return_, 1)) : GG g x nL Q kc ks y M pc L [] := by
  refine g_widen h1 h2 ?_
  intro H locs ls h1 h2 h4
  obtain ⟨rfl, hr, -⟩ := R
  exact vx_ret (W.vret C.1 C.2.1 hr (fun t ht hw => ⟨rfl, rfl, by rw [ht]; exact h1, h2.F ht⟩) (fun q hq => h2.2.2 q hq) (dcg T hi) C.2.2.2.2.1)
/-- behind a call that may throw -/
theorem after1 (C : CX g x own cc nL d mc ms) {H : Heap} {locs : List Loc} {ls : Array Slot} {ret ret2 : Option FieldType} {m2 s2 : Nat} {out : Nat × Int32 × Mem} {f : Option (Nat × Int32 × Mem)} {K : Int32 → Mem → Option (Nat × Int32 × Mem)} {a : Array Value} {st0 : List Value} (R : RT1 g x Q ret mc ms y out) (hkc : Nat.ble (kc + m2) mc = true) (hks : Nat.ble (ks + s2) ms = true) (h2 : va_S (Ag g) x.2.2.2.2.1.heap H locs) (h4 : LV g nL ls L)
    (hr : ∀ o2, f = some o2 → vx_Run x.1 x.2.1 x.2.2.1 x.2.2.2.1 x.2.2.2.2.1 x.2.2.2.2.2.1 x.2.2.2.2.2.2.1 x.2.2.2.2.2.2.2.1 x.2.2.2.2.2.2.2.2.1 x.2.2.2.2.2.2.2.2.2 H locs kc ks m2 s2 (F0 x.2.2.2.2.2.1 pc ls st0) (S.map (va g)) (Q1 g ret2.isSome y o2 a) (X1 g y o2) (Ag g))
    (h : cx f K = some out) (k : ∀ r M1, K r M1 = some out → GG g x nL Q (kc + m2) (ks + s2) y M1 (pc + 3) L (resv ret2.isSome r ++ S)) : WX x H locs kc ks Q (F0 x.2.2.2.2.2.1 pc ls st0) := by
  have keep : ∀ {st₀ t T' : State} {L' : List Loc}, st₀.heap = H → T'.heap = t.heap → va_F (Ag g) st₀ t → (∀ q ∈ L', Ag g q.base) → va_S (Ag g) x.2.2.2.2.1.heap T'.heap (locs ++ L') := by
    intro st₀ t T' L' h0 e1 hF hL
    obtain ⟨hz, hk⟩ := hF
    rw [h0] at hz hk
    refine ⟨Nat.le_trans h2.1 (by rw [e1]; exact hz), fun q h5 h6 => ?_, fun q hq => ?_⟩
    · rw [e1, hk q (Nat.lt_of_lt_of_le h5 h2.1) h6]; exact h2.2.1 q h5 h6
    · rcases List.mem_append.mp hq with h | h
      · exact h2.2.2 q h
      · exact hL q h
  intro T hT X
  rcases cx_e h with ⟨r, M1, hf, hK⟩ | ⟨hf, hne⟩
  · rcases hr _ hf T hT X with ⟨v, st₀, t, T', L', h0, X', hL, e1, e2, ⟨-, hv, hR, hF⟩, st⟩ | ⟨q, st₀, t, T', L', E, ce, h0, X', hL, e1, e2, ⟨hn, -⟩, -⟩
    · obtain ⟨t2, a1, b1⟩ := k r M1 hK T'.heap (locs ++ L') ls (by rw [e1]; exact hR) (keep h0 e1 hF hL) h4 T' rfl X'
      refine ⟨t2, st t2 ?_, b1⟩
      have ev : (if ret2.isSome = true then some (Value.int r) else none).toList ++ S.map (va g) = (resv ret2.isSome r ++ S).map (va g) := by
        cases ret2.isSome <;> rfl
      cases hv
      show Steps _ _ _ (T'.setTop { F0 x.2.2.2.2.2.1 pc ls st0 with pc := pc + 3, stack := _ }) _
      rw [ev]
      exact a1
    · exact absurd rfl hn
  · rcases hr _ hf T hT X with ⟨v, st₀, t, T', L', h0, X', hL, e1, e2, ⟨hn, -⟩, st⟩ | ⟨q, st₀, t, T', L', E, ce, h0, X', hL, e1, e2, ⟨-, hE, hR, hF⟩, hce, hcv, hcl, st⟩
    · exact absurd hn hne
    · obtain ⟨rfl, -, hx⟩ := R
      have hS := keep h0 e1 hF hL
      obtain ⟨t2, a1, b1⟩ := vx_out (p := x.1) (l := x.2.1) (e := x.2.2.1) (R := x.2.2.2.1) (s := x.2.2.2.2.1) (m := x.2.2.2.2.2.1) (args := x.2.2.2.2.2.2.1) (below := x.2.2.2.2.2.2.2.1) (meth := x.2.2.2.2.2.2.2.2.1) (c := x.2.2.2.2.2.2.2.2.2) (H := T'.heap) (locs := locs ++ L') (cells := kc + m2) (slots := ks + s2) (free := Ag g) (ls := ls) (rest := S.map (va g)) (Qc := Q1 g ret.isSome y out) (XC := X1 g y out) (pc := pc) (E := E) (ce := ce) (q := q) (mc := mc) (ms := ms)
        (fun z hz => (hx z hz).elim) C.2.2.2.2.1 (by rw [e1]; exact hce) hcv hcl (fun t9 ht9 _ => ⟨hne, hE, by rw [ht9, e1]; exact hR, hS.F ht9⟩) (fun z hz => hS.2.2 z hz) (Nat.le_of_ble_eq_true hkc) (Nat.le_of_ble_eq_true hks) T' rfl X'
      exact ⟨t2, st.trans a1, b1⟩
theorem g_callV1 (C : CX g x own cc nL d mc ms) (T : dck cc tb = true) {idx ci b n maxL d2 m2 s2 : Nat} {yn : MethodName} {c2 : ByteArray} {ret ret2 : Option FieldType} {out : Nat × Int32 × Mem} {f : Option (Nat × Int32 × Mem)} {K : Int32 → Mem → Option (Nat × Int32 × Mem)} (R : RT1 g x Q ret mc ms y out) (av : List Value) (hi : tb[i]? = some (pc, .invokevirtual idx, 3)) (hW : MW yn c2 maxL ret2 n) (hV : MV ci yn) (hl : Cond.methodLink own idx yn ∈ lw_tbl) (hk : kd y b = (0, ci)) (hd : Nat.ble (d2 + 1) d = true) (hm : Nat.ble maxL 80 = true) (hn : av.length = n) (hS8 : Nat.ble ((S.map fun v => v.category).sum) 8 = true)
    (hc : C1 g x.2.1 yn c2 maxL ret2 d2 m2 s2 y (.ref b :: av) M f) (h : cx f K = some out) (hkc : Nat.ble (kc + m2) mc = true) (hks : Nat.ble (ks + s2) ms = true) {S' : List Value} (hst : av.reverse ++ .ref b :: S = S') (k : ∀ r M1, K r M1 = some out → GG g x nL Q (kc + m2) (ks + s2) y M1 (pc + 3) L (resv ret2.isSome r ++ S)) : GG g x nL Q kc ks y M pc L S' := by
  intro H locs ls h1 h2 h4
  subst hst
  have hcw : CallW x.2.2.2.1 x.2.2.2.2.1 x.2.2.2.2.2.2.1 own yn.cls idx yn c2 maxL ret2 [Cond.code yn c2 maxL ret2] (rmD d2 m2 s2) m2 s2 n := ⟨callB0 C hW hl hd hm, C.word hV.1 rfl, C.word hV.2.1 rfl⟩
  have hR : RLE x.2.2.2.1 d mc ms := C.2.2.2.2.2.1
  have hR1 := hR.1
  have hR2 := hR.2.1
  refine after1 C R hkc hks h2 h4 (fun o2 hf => vx_runV ⟨C.1, C.2.1, C.2.2.1, C.2.2.2.1, fun w (hw : w ∈ ([] : List Cond)) => absurd hw List.not_mem_nil⟩ (hc o2 hf) hcw (preV0 C h1 h2 hk hV) rfl ?_ h4.1.1 ?_ ?_ (dcg T hi) ?_) h k
  · rw [List.length_map]; exact hn
  · show List.map (va g) (av.reverse ++ .ref b :: S) = (av.map (va g)).reverse ++ .ref (ad g b) :: S.map (va g)
    rw [List.map_append, List.map_reverse]; rfl
  · show 2 * 0 + _ ≤ 8
    have := Nat.le_of_ble_eq_true hS8
    rw [List.map_map]
    have e : (fun v => Value.category v) ∘ va g = fun v => v.category := by funext v; exact va_cat v
    rw [e]; omega
  · exact ⟨by rw [hR.2.2.1]; exact Nat.le_of_ble_eq_true hkc, by rw [hR.2.2.2]; exact Nat.le_of_ble_eq_true hks⟩
/-- a word of a throw: good, or castable -/
def gw2 (w : Cond) : Bool := goodWord w || (match w with | .castable _ _ => true | .declares _ => true | _ => false)
theorem CX.word2 (C : CX g x own cc nL d mc ms) {w : Cond} (hw : w ∈ lw_tbl) (hg : gw2 w = true) : w.before x.2.2.2.2.2.2.1 x.2.2.2.2.1 = true := by
  unfold gw2 at hg
  rw [Bool.or_eq_true] at hg
  rcases hg with hg | hg
  · exact C.word hw hg
  · cases w <;> first | (simp at hg; done) | skip
    · rename_i m0
      have h0 := C.2.2.2.2.2.2.1.1 _ hw
      have h1 : (Cond.declares m0).before #[Value.ref g.2.2.2.2.1] (g.1.setVm x.2.2.2.2.1.vm) = true := Cond.before_shiftedFace (State.Shifted.of_warmed C.2.2.2.2.2.2.2.1) _ rfl h0
      exact va_tabs (A := #[Value.ref g.2.2.2.2.1]) rfl rfl h1
    · rename_i a b
      have h0 := C.2.2.2.2.2.2.1.1 _ hw
      have h1 : (Cond.castable a b).before #[Value.ref g.2.2.2.2.1] (g.1.setVm x.2.2.2.2.1.vm) = true := by
        rw [Cond.castable_setVm (C.2.2.2.2.2.2.2.1).alike]; exact h0
      exact va_tabs (A := #[Value.ref g.2.2.2.2.1]) rfl rfl h1
/-- the words of 'throw new E()' -/
def TW (own : String) (ik ic : Nat) (cls : String) (names : List String) : Prop := (∀ w ∈ Cond.classLink own ik cls :: Cond.initialized cls :: vx_at0 own ic cls names, w ∈ lw_tbl) ∧ (∀ w ∈ Cond.classLink own ik cls :: Cond.initialized cls :: vx_at0 own ic cls names, gw2 w = true ∧ vx_ot w = true) ∧ Bundle.fit cls = true ∧ (∀ n ∈ names, Bundle.fit n = true) ∧ Nat.ble names.length 4 = true
theorem g_throw (C : CX g x own cc nL d mc ms) (T : dck cc tb = true) {T2 : Tb} {i0 i1 i2 i3 ik ic e : Nat} {r : Int32} {names : List String} {ret : Option FieldType} (R : RT1 g x Q ret mc ms y (e + 1, r, M)) (hw : TW own ik ic (exNm (e + 1)) names)
    (d0 : tb[i0]? = some (pc, .new ik, 3)) (d3 : tb[i1]? = some (pc + 3, .dup, 1)) (d4 : tb[i2]? = some (pc + 4, .invokespecial ic, 3)) (d7 : tb[i3]? = some (pc + 7, .athrow, 1)) (hS8 : Nat.ble ((S.map fun v => v.category).sum) 8 = true) (hkc : Nat.ble (kc + 1) mc = true) (hks : Nat.ble (ks + 6) ms = true) : GG g x nL Q kc ks y M pc L S := by
  intro H locs ls h1 h2 h4
  obtain ⟨rfl, hr, hx⟩ := R
  have hR : RLE x.2.2.2.1 d mc ms := C.2.2.2.2.2.1
  have hR1 := hR.1
  have hR2 := hR.2.1
  have G := C.2.2.2.2.2.2.1
  have hl : x.2.1.stackTraces = false := by
    have h := G.2.2.1
    simp only [Launch.stackTraces, h]
    decide
  have bw : ∀ w ∈ Cond.classLink own ik (exNm (e + 1)) :: Cond.initialized (exNm (e + 1)) :: vx_at0 own ic (exNm (e + 1)) names, w.before x.2.2.2.2.2.2.1 x.2.2.2.2.1 = true := fun w h => C.word2 (hw.1 w h) (hw.2.1 w h).1
  have low : ∀ q : Nat, q < g.1.heap.size → ¬ Ag g q → x.2.2.2.2.1.heap[q]? = g.1.heap[q]? := fun q h1 h2 => C.2.2.2.2.2.2.2.2.2 q h1
  have hcat : (List.map (fun v => Value.category v) (S.map (va g))).sum ≤ 8 := by
    have := Nat.le_of_ble_eq_true hS8
    rw [List.map_map]
    have e : (fun v => Value.category v) ∘ va g = fun v => v.category := by funext v; exact va_cat v
    rw [e]; exact this
  have hnl := Nat.le_of_ble_eq_true hw.2.2.2.2
  have hkc' := Nat.le_of_ble_eq_true hkc
  have hks' := Nat.le_of_ble_eq_true hks
  exact vx_throw0 C.1 C.2.1 hl C.2.2.2.1 hw.2.2.1 hw.2.2.2.1 (bw _ List.mem_cons_self) (bw _ (List.mem_cons_of_mem _ List.mem_cons_self)) (fun w h => bw w (List.mem_cons_of_mem _ (List.mem_cons_of_mem _ h))) (fun w h => (hw.2.1 w h).2)
    ((G.2.2.2.2.1.1.moved (C.2.2.2.2.2.2.2.1).alike).kept low) ((G.2.2.2.2.1.2.moved (C.2.2.2.2.2.2.2.1).alike).kept low) h2 (h4.1.1.trans C.2.2.1.symm) (dcg T d0) (dcg T d3) (dcg T d4) (dcg T d7) (fun z hz => (hx z hz).elim)
    (by omega) (by omega) (by rw [hR.2.2.1]; exact hkc') (by rw [hR.2.2.2]; exact hks') C.2.2.2.2.1
    (fun t ha hz hk => ⟨Nat.succ_ne_zero _, rfl, h1.mono hk, Nat.le_trans h2.1 hz, fun q h5 h6 => by rw [hk q (Nat.lt_of_lt_of_le h5 h2.1)]; exact h2.2.1 q h5 h6⟩) (fun z hz => h2.2.2 z hz) hkc' hks'
-- Math
theorem cat_le (hS8 : Nat.ble ((S.map fun v => v.category).sum) 8 = true) : (List.map (fun v => Value.category v) (S.map (va g))).sum ≤ 8 := by
  have := Nat.le_of_ble_eq_true hS8
  rw [List.map_map]
  have e : (fun v => Value.category v) ∘ va g = fun v => v.category := by funext v; exact va_cat v
  rw [e]; exact this
theorem g_min (C : CX g x own cc nL d mc ms) (T : dck cc tb = true) {idx : Nat} {a b : Int32} (hi : tb[i]? = some (pc, .invokestatic idx, 3)) (hw : ∀ w ∈ [Cond.methodLink own idx Lib.Math.min.name, Cond.static Lib.Math.min.name, Cond.initialized "java/lang/Math", Cond.code Lib.Math.min.name Lib.Math.min.code 2 (some .int)], w ∈ lw_tbl) (hS8 : Nat.ble ((S.map fun v => v.category).sum) 8 = true) (hkc : Nat.ble kc mc = true) (hks : Nat.ble ks ms = true) (k : GG g x nL Q kc ks y M (pc + 3) L (.int (jmin a b) :: S)) : GG g x nL Q kc ks y M pc L (.int b :: .int a :: S) := by
  intro H locs ls h1 h2 h4
  have hR : RLE x.2.2.2.1 d mc ms := C.2.2.2.2.2.1
  have hR1 := hR.1
  have hR2 := hR.2.1
  have hcat := cat_le (g := g) hS8
  have k1 := Nat.le_of_ble_eq_true hkc
  have k2 := Nat.le_of_ble_eq_true hks
  exact va_mmin C.1 C.2.1 (by rw [h4.1.1]; exact C.2.2.1) C.2.2.2.1 (C.word (hw _ (by simp)) rfl) (C.word (hw _ (by simp)) rfl) (C.word (hw _ (by simp)) rfl) (C.word (hw _ (by simp)) rfl) (by omega) (by omega) (by rw [hR.2.2.1]; exact k1) (by rw [hR.2.2.2]; exact k2) (dcg T hi) (k H locs ls h1 h2 h4)
theorem g_max (C : CX g x own cc nL d mc ms) (T : dck cc tb = true) {idx : Nat} {a b : Int32} (hi : tb[i]? = some (pc, .invokestatic idx, 3)) (hw : ∀ w ∈ [Cond.methodLink own idx Lib.Math.max.name, Cond.static Lib.Math.max.name, Cond.initialized "java/lang/Math", Cond.code Lib.Math.max.name Lib.Math.max.code 2 (some .int)], w ∈ lw_tbl) (hS8 : Nat.ble ((S.map fun v => v.category).sum) 8 = true) (hkc : Nat.ble kc mc = true) (hks : Nat.ble ks ms = true) (k : GG g x nL Q kc ks y M (pc + 3) L (.int (jmax a b) :: S)) : GG g x nL Q kc ks y M pc L (.int b :: .int a :: S) := by
  intro H locs ls h1 h2 h4
  have hR : RLE x.2.2.2.1 d mc ms := C.2.2.2.2.2.1
  have hR1 := hR.1
  have hR2 := hR.2.1
  have hcat := cat_le (g := g) hS8
  have k1 := Nat.le_of_ble_eq_true hkc
  have k2 := Nat.le_of_ble_eq_true hks
  exact va_mmax C.1 C.2.1 (by rw [h4.1.1]; exact C.2.2.1) C.2.2.2.1 (C.word (hw _ (by simp)) rfl) (C.word (hw _ (by simp)) rfl) (C.word (hw _ (by simp)) rfl) (C.word (hw _ (by simp)) rfl) (by omega) (by omega) (by rw [hR.2.2.1]; exact k1) (by rw [hR.2.2.2]; exact k2) (dcg T hi) (k H locs ls h1 h2 h4)
theorem g_abs (C : CX g x own cc nL d mc ms) (T : dck cc tb = true) {idx : Nat} {a : Int32} (hi : tb[i]? = some (pc, .invokestatic idx, 3)) (hw : ∀ w ∈ [Cond.methodLink own idx Lib.Math.abs.name, Cond.static Lib.Math.abs.name, Cond.initialized "java/lang/Math", Cond.code Lib.Math.abs.name Lib.Math.abs.code 1 (some .int)], w ∈ lw_tbl) (hS8 : Nat.ble ((S.map fun v => v.category).sum) 8 = true) (hkc : Nat.ble kc mc = true) (hks : Nat.ble ks ms = true) (k : GG g x nL Q kc ks y M (pc + 3) L (.int (jabs a) :: S)) : GG g x nL Q kc ks y M pc L (.int a :: S) := by
  intro H locs ls h1 h2 h4
  have hR : RLE x.2.2.2.1 d mc ms := C.2.2.2.2.2.1
  have hR1 := hR.1
  have hR2 := hR.2.1
  have hcat := cat_le (g := g) hS8
  have k1 := Nat.le_of_ble_eq_true hkc
  have k2 := Nat.le_of_ble_eq_true hks
  exact va_mabs C.1 C.2.1 (by rw [h4.1.1]; exact C.2.2.1) C.2.2.2.1 (C.word (hw _ (by simp)) rfl) (C.word (hw _ (by simp)) rfl) (C.word (hw _ (by simp)) rfl) (C.word (hw _ (by simp)) rfl) (by omega) (by omega) (by rw [hR.2.2.1]; exact k1) (by rw [hR.2.2.2]; exact k2) (dcg T hi) (k H locs ls h1 h2 h4)
theorem g_copy (C : CX g x own cc nL d mc ms) (T : dck cc tb = true) {idx a b : Nat} {sp dp n : Int32} (hi : tb[i]? = some (pc, .invokestatic idx, 3)) (hw : ∀ w ∈ [Cond.methodLink own idx arraycopyName, Cond.native arraycopyName, Cond.static arraycopyName, Cond.initialized "java/lang/System"], w ∈ lw_tbl) (hS8 : Nat.ble ((S.map fun v => v.category).sum) 8 = true)
    (hk : ((kd y a).1 = 1 ∧ (kd y b).1 = 1) ∧ (¬ sp < 0 ∧ ¬ dp < 0 ∧ ¬ n < 0) ∧ sp.toNatClampNeg + n.toNatClampNeg ≤ (kd y a).2 ∧ dp.toNatClampNeg + n.toNatClampNeg ≤ (kd y b).2) (k : GG g x nL Q kc ks y (cpI M a b sp.toNatClampNeg dp.toNatClampNeg n.toNatClampNeg) (pc + 3) L S) : GG g x nL Q kc ks y M pc L (.int n :: .int dp :: .ref b :: .int sp :: .ref a :: S) := by
  intro H locs ls h1 h2 h4
  have hR : RLE x.2.2.2.1 d mc ms := C.2.2.2.2.2.1
  have hR1 := hR.1
  have hR2 := hR.2.1
  have hcat := cat_le (g := g) hS8
  obtain ⟨⟨ka, kb⟩, ⟨n1, n2, n3⟩, l1, l2⟩ := hk
  have ha := wld_get (g := g) (M := M) (r := a) (c := kd y a) rfl (by rw [ka]; decide) h1.2
  have hb := wld_get (g := g) (M := M) (r := b) (c := kd y b) rfl (by rw [kb]; decide) h1.2
  have hws : (wld g y M).set (b - 1) (ad g b, .inl (g.2.2.1 0, (kd y b).2, .inl (va_cpy (M.1 a) (M.1 b) sp.toNatClampNeg dp.toNatClampNeg n.toNatClampNeg))) = wld g y (cpI M a b sp.toNatClampNeg dp.toNatClampNeg n.toNatClampNeg) :=
    wld_set (c := kd y b) rfl (by rw [kb]; decide) h1.2 (by unfold entK; rw [if_neg (by rw [kb]; decide), if_pos kb]; show Sum.inl (_, _, Sum.inl ((cpI M a b _ _ _).1 b)) = _; unfold cpI; simp only [if_true]) ent_cp
  unfold entK at ha hb
  rw [if_neg (by rw [ka]; decide), if_pos ka] at ha
  rw [if_neg (by rw [kb]; decide), if_pos kb] at hb
  have e9 : nativeFrameWords "java/lang/System" "arraycopy" 5 ≤ 200 := by decide
  have hnl : (List.map (fun v => Value.category v) (S.map (va g))).sum + (nativeFrameWords "java/lang/System" "arraycopy" 5 + 11) ≤ x.2.2.2.1.locals := by omega
  refine va_copyi C.1 C.2.1 (by rw [h4.1.1]; exact C.2.2.1) C.2.2.2.1 (C.word (hw _ (by simp)) rfl) (C.word (hw _ (by simp)) rfl) (C.word (hw _ (by simp)) rfl) (C.word (hw _ (by simp)) rfl) C.K h1.1 wld_D h2 (a - 1) (b - 1) 0 0 ha hb rfl rfl rfl n1 n2 n3 l1 l2 (fun _ _ => rfl) (by omega) hnl (dcg T hi) (fun H1 locs1 p1 p2 p3 => k H1 locs1 ls ⟨by rw [← hws]; exact p1, h1.2⟩ p3 h4)
end GR5
end
section
/-! ===== loops, small helps ===== -/
def FUEL : Nat := 100000
theorem nn_e {β : Type} {o : β} (h : (none : Option β) = some o) : False := by cases h
theorem fix_i {κ : Type} {bot : κ} {F : κ → κ} {P : κ → Prop} (h0 : P bot) (hs : ∀ f, P f → P (F f)) (n : Nat) : P (fixN bot F n) := by
  induction n with
  | zero => exact h0
  | succ n ih => exact hs _ ih
theorem i32_ne {a : Int32} (l : List Int32) {n : Nat} (hn : l.length = n) (h : ∀ c ∈ l, ¬ a = c) : ∀ j, j < n → ¬ a = l.getD j 0 := by
  intro j hj
  subst hn
  refine h _ ?_
  rw [List.getD_eq_getElem?_getD, List.getElem?_eq_getElem hj]
  exact List.getElem_mem hj
/-- the last of a switch's values -/
theorem i32_sw {a lo hi : Int32} {n : Nat} {l : List Int32} (h : ¬ (a < lo ∨ hi < a)) (hh : (decide (hi.toInt = lo.toInt + n) && decide (l.length = n) && (List.range n).all (fun j => decide ((l.getD j 0).toInt = lo.toInt + j))) = true) (hj : ∀ j, j < n → ¬ a = l.getD j 0) : a = hi := by
  simp only [Bool.and_eq_true, decide_eq_true_eq, List.all_eq_true, List.mem_range] at hh
  obtain ⟨⟨h1, h2⟩, h3⟩ := hh
  have ha : ¬ a.toInt < lo.toInt ∧ ¬ hi.toInt < a.toInt := ⟨fun q => h (Or.inl (Int32.lt_iff_toInt_lt.mpr q)), fun q => h (Or.inr (Int32.lt_iff_toInt_lt.mpr q))⟩
  apply Int32.toInt_inj.mp
  by_cases e : a.toInt = hi.toInt
  · exact e
  · exfalso
    have hk : (a.toInt - lo.toInt).toNat < n := by omega
    have := h3 _ hk
    exact hj _ hk (Int32.toInt_inj.mp (by rw [this]; omega))
theorem lk_df {d v : Int} : ∀ {ps : List (Int × Int)}, (∀ p ∈ ps, ¬ p.1 = v) → Op.lookupswitch.offset ps d v = d := by
  intro ps
  induction ps with
  | nil => intro h; rfl
  | cons a ps ih =>
    intro h
    obtain ⟨a1, a2⟩ := a
    have h1 : ¬ a1 = v := h (a1, a2) List.mem_cons_self
    rw [Op.lookupswitch.offset_cons, if_neg h1]
    exact ih (fun p hp => h p (List.mem_cons_of_mem _ hp))
section GR6
variable {g : GX} {x : KX} {own : String} {cc : ByteArray} {nL d mc ms : Nat} {Q : State → Prop} {kc ks : Nat} {y : Lay} {M : Mem} {pc i : Nat} {L : List (Option Value)} {S : List Value} {tb : Tb}
theorem g_iincv (C : CX g x own cc nL d mc ms) (T : dck cc tb = true) {j : Nat} {n : Int} {v w : Int32} (e : Int32) (hw : w = v + e) (hi : tb[i]? = some (pc, .iinc j n, 3)) (hl : L[j]? = some (some (.int v))) (he : Int32.ofInt n = e) (hj : Nat.ble (j + 1) nL = true) (hn : nlo L j = true) (k : GG g x nL Q kc ks y M (pc + 3) (L.set j (some (.int w))) S) : GG g x nL Q kc ks y M pc L S := by
  subst hw
  exact g_iinc C T e hi hl he hj hn k
theorem CX.low (C : CX g x own cc nL d mc ms) : ∀ q : Nat, q < g.1.heap.size → ¬ Ag g q → x.2.2.2.2.1.heap[q]? = g.1.heap[q]? := fun q h1 _ => C.2.2.2.2.2.2.2.2.2 q h1
theorem g_ldcIw (C : CX g x own cc nL d mc ms) (T : dck cc tb = true) {idx : Nat} {v : Int32} (hi : tb[i]? = some (pc, .ldc_w idx, 3)) (hw : Cond.constant own idx v ∈ lw_tbl) (k : GG g x nL Q kc ks y M (pc + 3) L (.int v :: S)) : GG g x nL Q kc ks y M pc L S :=
  fun H locs ls h1 h2 h4 => lv_ldcw C.1 C.2.1 C.2.2.2.1 (C.word hw rfl) (dcg T hi) (k H locs ls h1 h2 h4)
/-- a String constant: how long, and its signs -/
theorem SF.adK {k : Nat} (hk : k < nStr) : ad g (1000 + k) = g.2.2.2.1 k := by
  have hk' : k < 37 := hk
  unfold ad
  rw [if_neg (by omega), if_neg (by omega), show 1000 + k - 1000 = k by omega]
theorem g_ldcS (C : CX g x own cc nL d mc ms) (T : dck cc tb = true) {idx k : Nat} (hi : tb[i]? = some (pc, .ldc idx, 2)) (h1 : strOwn k = own) (h2 : strIdx k = idx) (hk : k < nStr) (kk : GG g x nL Q kc ks y M (pc + 2) L (.ref (1000 + k) :: S)) : GG g x nL Q kc ks y M pc L S := by
  intro H locs ls a b c
  have hs := (C.2.2.2.2.2.2.1.2.2.2.1.1 k hk).2.2.2.2
  rw [h1, h2] at hs
  have hs := vk_R.warm C.2.2.2.2.2.2.2.1 hs
  have kk' := kk H locs ls a b c
  have e : (Value.ref (1000 + k) :: S).map (va g) = .ref (g.2.2.2.1 k) :: S.map (va g) := by
    show Value.ref (ad g (1000 + k)) :: _ = _
    rw [SF.adK hk]
  rw [e] at kk'
  exact va_ldcS C.1 C.2.1 C.2.2.2.1 hs (dcg T hi) kk'
end GR6
theorem CP_of {g : GX} {l : Launch} {yn : MethodName} {cc : ByteArray} {maxL : Nat} {ret : Option FieldType} {d : Nat} {y : Lay} {av : List Value} {M : Mem} {f : Option Int32} (hG : GF g l) (hy : plainName yn.cls = true) (L0 : List (Option Value)) (hL : argL av ++ List.replicate (maxL - (argL av).length) none = L0) (hn : Nat.ble (argL av).length maxL = true)
    (body : ∀ out, f = some out → ∀ (x : KX) (Q : State → Prop), CX g x yn.cls cc maxL d 0 0 → RT0 g x Q ret y (out, M) → GG g x maxL Q 0 0 y M 0 L0 []) : C0 g l yn cc maxL ret d y av M (pm M f) := by
  refine C0_of hG hy L0 hL hn (fun out h x Q C R => ?_)
  obtain ⟨r, h1, h2⟩ := pm_e h
  subst h2
  exact body r h1 x Q C R
theorem CX.G {g : GX} {x : KX} {own : String} {cc : ByteArray} {nL d mc ms : Nat} (C : CX g x own cc nL d mc ms) : GF g x.2.1 := C.2.2.2.2.2.2.1
end
section
/-! ===== constructors ===== -/
/-- a cell more, of kind c, all zero -/
def psh (y : Lay) (c : Nat × Nat) : Lay := (fun q => if q = y.2.2 + 1 then c else y.1 q, fun q k => if q = y.2.2 + 1 then 0 else y.2.1 q k, y.2.2 + 1)
def zM (M : Mem) (p : Nat) : Mem := (fun a k => if a = p then 0 else M.1 a k, fun a k => if a = p then 0 else M.2.1 a k, fun a k => if a = p then 0 else M.2.2 a k)
def wF (y : Lay) (p k v : Nat) : Lay := (y.1, u2 y.2.1 p k v, y.2.2)
theorem slot_z {g : GX} {y : Lay} {M : Mem} {c : Nat × Nat} {p ci : Nat} (hp : p ≠ y.2.2 + 1) : slot g (psh y c) (zM M (y.2.2 + 1)) p ci = slot g y M p ci := by
  funext k
  unfold slot psh zM
  simp only [if_neg hp]
theorem ent_z {g : GX} {y : Lay} {M : Mem} {c c' : Nat × Nat} {p : Nat} (hp : p ≠ y.2.2 + 1) : entK g (psh y c) (zM M (y.2.2 + 1)) p c' = entK g y M p c' := by
  have e1 : (zM M (y.2.2 + 1)).1 p = M.1 p := by funext k; exact if_neg hp
  have e2 : (zM M (y.2.2 + 1)).2.1 p = M.2.1 p := by funext k; exact if_neg hp
  have e3 : (psh y c).2.1 p = y.2.1 p := by funext k; exact if_neg hp
  unfold entK
  rw [slot_z hp, e1, e2]
  simp only [e3]
theorem wld_psh {g : GX} {y : Lay} {M : Mem} {c : Nat × Nat} : wld g (psh y c) (zM M (y.2.2 + 1)) = wld g y M ++ [(bs g + y.2.2, entK g (psh y c) (zM M (y.2.2 + 1)) (y.2.2 + 1) c)] := by
  unfold wld
  show (List.range (y.2.2 + 1)).map _ = _
  rw [List.range_succ, List.map_append]
  congr 1
  · apply List.map_congr_left
    intro i hi
    have hi' : i < y.2.2 := List.mem_range.mp hi
    have hne : i + 1 ≠ y.2.2 + 1 := by omega
    rw [ent_z hne]
    have e : (psh y c).1 (i + 1) = y.1 (i + 1) := if_neg hne
    rw [e]
  · show [(bs g + y.2.2, entK g (psh y c) _ (y.2.2 + 1) ((psh y c).1 (y.2.2 + 1)))] = _
    rw [show (psh y c).1 (y.2.2 + 1) = c from if_pos rfl]
/-- where the next cell goes -/
theorem new_at {g : GX} {y : Lay} {M : Mem} {H1 : Heap} {q : Nat} {e : va_E} (hP : va_P g.2.1 vwCl (wld g y M ++ [(q, e)]) H1) (hD : va_D (Ag g) (wld g y M ++ [(q, e)])) (hz : H1.size ≤ bs g + y.2.2 + 1) : q = bs g + y.2.2 := by
  have hl : (wld g y M ++ [(q, e)])[y.2.2]? = some (q, e) := by
    rw [List.getElem?_append_right (by rw [wld_len]; exact Nat.le_refl _), wld_len, Nat.sub_self]; rfl
  have h1 : q < H1.size := (hP _ _ hl).lt
  have h2 : bs g ≤ q := hD.2 _ _ hl
  by_cases hq : q < bs g + y.2.2
  · exfalso
    have hi : q - bs g < y.2.2 := by omega
    have hg : (wld g y M ++ [(q, e)])[q - bs g]? = some (bs g + (q - bs g), entK g y M (q - bs g + 1) (y.1 (q - bs g + 1))) := by
      rw [List.getElem?_append_left (by rw [wld_len]; exact hi)]
      unfold wld
      rw [List.getElem?_map, List.getElem?_range hi]; rfl
    have := hD.1 _ _ _ _ hg hl (by show bs g + (q - bs g) = q; omega)
    omega
  · omega
def PI (g : GX) (y : Lay) (av : List Value) (M : Mem) : Array Value → State → Prop := fun v U => PK g y av M v U ∧ U.heap.size = bs g + y.2.2
theorem PI_blind {g : GX} {y : Lay} {av : List Value} {M : Mem} : FrameBlind (PI g y av M) := fun _ _ _ _ h => h
def QI (g : GX) (n : Nat) (out : Lay × Mem) : Array Value → State → Outcome → State → Prop := fun _ st o t => o = .returned none ∧ RelH g out.1 out.2 t.heap ∧ va_F (Ag g) st t ∧ t.heap.size = bs g + out.1.2.2 ∧ out.1.2.2 = n
def CIt (g : GX) (l : Launch) (yn : MethodName) (cc : ByteArray) (maxL : Nat) (d mc ms : Nat) (y : Lay) (av : List Value) (M : Mem) (f : Option (Lay × Mem)) : Prop :=
  ∀ out, f = some out → Met l yn [Cond.code yn cc maxL none] (rmD d mc ms) (PI g y av M) (QI g (y.2.2 + mc) out) mc ms (Ag g)
def RTI (g : GX) (x : KX) (Q : State → Prop) (mc ms n : Nat) (out : Lay × Mem) : Prop :=
  Q = MQ x.2.2.2.2.2.2.2.1 (QI g n out) x.2.2.2.2.2.2.1 x.2.2.2.2.1 mc ms (Ag g) ∧ x.2.2.2.2.2.2.2.2.1.sig.returnType = none ∧ x.2.2.2.2.2.2.2.2.1.name = "<init>"
/-- how large the heap was, by the cells made since -/
def HZ (g : GX) (x : KX) (kc : Nat) (y : Lay) : Prop := x.2.2.2.2.1.heap.size + kc = bs g + y.2.2
theorem CI_of {g : GX} {l : Launch} {yn : MethodName} {cc : ByteArray} {maxL : Nat} {d mc ms : Nat} {y : Lay} {av : List Value} {M : Mem} {f : Option (Lay × Mem)} (hG : GF g l) (hy : plainName yn.cls = true) (hn1 : yn.name = "<init>") (L0 : List (Option Value)) (hL : argL av ++ List.replicate (maxL - (argL av).length) none = L0) (hn : Nat.ble (argL av).length maxL = true)
    (body : ∀ out, f = some out → ∀ (x : KX) (Q : State → Prop), CX g x yn.cls cc maxL d mc ms → RTI g x Q mc ms (y.2.2 + mc) out → HZ g x 0 y → GG g x maxL Q 0 0 y M 0 L0 []) : CIt g l yn cc maxL d mc ms y av M f := by
  intro out hf
  refine Met.ofW (cc := cc) (maxL := maxL) (ret := none) hy rfl ?_
  intro p e s m args below meth c s₁ B hml hP
  obtain ⟨⟨rfl, hR, hW, hb, hlow⟩, hz⟩ := hP
  have C : CX g (p, l, e, rmD d mc ms, s, m, (av.map (va g)).toArray, below, meth, c) yn.cls cc maxL d mc ms := ⟨B.exec, B.bytes, hml, findClass_of_methodNamed B.named, B.notSynchronized, ⟨Nat.le_refl _, Nat.le_refl _, rfl, rfl⟩, hG, hW, hb, hlow⟩
  rw [lg_entry_eq]
  exact body out hf _ _ C ⟨rfl, B.returns, (name_of_methodNamed B.named B.method).1.trans hn1⟩ hz s.heap [] _ hR va_S.rf (start_LV hL (Nat.le_of_ble_eq_true hn))
/-- a class that can be made: its slots' defaults -/
def CNW (ci : Nat) (q : vw_C) : Prop := ∃ ty : Nat → FieldType, (∀ k, k < q.2.2 → parseFieldDescriptor (q.2.1 k).2.2.1 = some (ty k)) ∧ ∀ j, j < q.2.2 → defaultValue (ty j) = if ftag ci j = 0 then .int 0 else .null
section GR9
variable {g : GX} {x : KX} {own : String} {cc : ByteArray} {nL d mc ms : Nat} {Q : State → Prop} {kc ks : Nat} {y : Lay} {M : Mem} {pc i : Nat} {L : List (Option Value)} {S : List Value} {tb : Tb}
theorem low_size {H : Heap} (C : CX g x own cc nL d mc ms) {locs : List Loc} (h1 : RelH g y M H) (h2 : va_S (Ag g) x.2.2.2.2.1.heap H locs) : bs g + y.2.2 ≤ H.size := by
  by_cases hn : y.2.2 = 0
  · rw [hn]; exact Nat.le_trans C.2.2.2.2.2.2.2.2.1 h2.1
  · have hg : (wld g y M)[y.2.2 - 1]? = some (bs g + (y.2.2 - 1), entK g y M (y.2.2 - 1 + 1) (y.1 (y.2.2 - 1 + 1))) := by
      unfold wld
      rw [List.getElem?_map, List.getElem?_range (by omega)]; rfl
    have := (h1.1 _ _ hg).lt
    have : bs g + (y.2.2 - 1) < H.size := this
    omega
theorem g_objI (C : CX g x own cc nL d mc ms) (T : dck cc tb = true) {idx r : Nat} (hi : tb[i]? = some (pc, .invokespecial idx, 3)) (hl : Cond.methodLink own idx objectInit ∈ lw_tbl) (hw : ∀ w ∈ [Cond.instanceMethod objectInit, Cond.code objectInit ⟨#[0xb1]⟩ 1 none], w ∈ lw_tbl) (hS8 : Nat.ble ((S.map fun v => v.category).sum) 8 = true) (k : GG g x nL Q kc ks y M (pc + 3) L S) : GG g x nL Q kc ks y M pc L (.ref r :: S) := by
  intro H locs ls h1 h2 h4
  have hR : RLE x.2.2.2.1 d mc ms := C.2.2.2.2.2.1
  have hR1 := hR.1
  have hR2 := hR.2.1
  have hcat := cat_le (g := g) hS8
  have h3 : 2 * 0 + (List.map (fun v => Value.category v) (S.map (va g))).sum + 12 ≤ x.2.2.2.1.locals := by omega
  exact W.objInit C.1 C.2.1 C.2.2.2.1 (C.word hl rfl) (C.word (hw _ (by simp)) rfl) (C.word (hw _ (by simp)) rfl) rfl (by rw [h4.1.1]; exact C.2.2.1.symm) rfl (dcg T hi) (by omega) h3 (k H locs ls h1 h2 h4)
theorem g_new (C : CX g x own cc nL d mc ms) (T : dck cc tb = true) {idx ci : Nat} {q : vw_C} (hz : HZ g x kc y) (hi : tb[i]? = some (pc, .new idx, 3)) (hc : CLS ci q) (hnw : CNW ci q) (hl : Cond.classLink own idx q.1 ∈ lw_tbl) (hin : Cond.instantiable q.1 q.2.2 ∈ lw_tbl) (hini : Cond.initialized q.1 ∈ lw_tbl) (hn : Nat.ble (y.2.2 + 2) 1000 = true ∨ y.2.2 + 2 ≤ 1000) (hkc : Nat.ble (kc + 1) mc = true) (hks : Nat.ble (ks + q.2.2) ms = true)
    (kk : HZ g x (kc + 1) (psh y (0, ci)) → GG g x nL Q (kc + 1) (ks + q.2.2) (psh y (0, ci)) (zM M (y.2.2 + 1)) (pc + 3) L (.ref (y.2.2 + 1) :: S)) : GG g x nL Q kc ks y M pc L S := by
  intro H locs ls h1 h2 h4
  have hR : RLE x.2.2.2.1 d mc ms := C.2.2.2.2.2.1
  obtain ⟨ty, hty, hdf⟩ := hnw
  have hn' : y.2.2 + 2 ≤ 1000 := hn.elim Nat.le_of_ble_eq_true id
  have ent : entK g (psh y (0, ci)) (zM M (y.2.2 + 1)) (y.2.2 + 1) (0, ci) = .inr (ci, (List.range q.2.2).map (fun j => if ftag ci j = 0 then Value.int 0 else Value.null)) := by
    unfold entK
    rw [if_pos rfl, hc.2.2.2.2]
    congr 2
    apply List.map_congr_left
    intro j hj
    unfold slot psh zM rfv
    simp only [if_true]
    split
    · rfl
    · split <;> rfl
  refine va_new (q := ?_) (C := q.1) (T := q.2.1) (N := q.2.2) (ci := ci) (fs := (List.range q.2.2).map (fun j => if ftag ci j = 0 then Value.int 0 else Value.null)) C.1 C.2.1 (C.uws hc) (fun w h => h) ty hty C.2.2.2.1 (C.word hl rfl) (C.word hin rfl) (C.word hini rfl) C.K h1.1 wld_D h2 (fun q hq => Nat.le_trans C.2.2.2.2.2.2.2.2.1 hq) hc.1 (fun j hj => ?_) (by rw [hR.2.2.1]; exact Nat.le_of_ble_eq_true hkc) (by rw [hR.2.2.2]; exact Nat.le_of_ble_eq_true hks) (dcg T hi) (fun q9 H1 hP hD hS => ?_)
  · rw [hdf j hj]
    simp [vp_V, List.getD, hj]
  · intro Tt hT X
    have hz1 : H1.size ≤ bs g + y.2.2 + 1 := by
      have := X.heapSize
      rw [hT] at this
      have h9 : x.2.2.2.2.1.heap.size + kc = bs g + y.2.2 := hz
      omega
    have hq := new_at hP hD hz1
    subst hq
    have hP' : va_P g.2.1 vwCl (wld g (psh y (0, ci)) (zM M (y.2.2 + 1))) H1 := by rw [wld_psh, ent]; exact hP
    have ea : ad g (y.2.2 + 1) = bs g + y.2.2 := by unfold ad; rw [if_pos (by omega)]; rfl
    have k9 := kk (show x.2.2.2.2.1.heap.size + (kc + 1) = bs g + (y.2.2 + 1) from by have h9 : x.2.2.2.2.1.heap.size + kc = bs g + y.2.2 := hz; omega) H1 locs ls ⟨hP', show y.2.2 + 1 < 1000 by omega⟩ hS h4
    have es : (Value.ref (y.2.2 + 1) :: S).map (va g) = .ref (bs g + y.2.2) :: S.map (va g) := by
      show Value.ref (ad g (y.2.2 + 1)) :: _ = _
      rw [ea]
    rw [es] at k9
    exact k9 Tt hT X
/-- a new row of numbers -/
theorem g_newaX (C : CX g x own cc nL d mc ms) {t n : Nat} {cA : ClassId} {H H1 : Heap} {locs : List Loc} {ls : Array Slot} {q : Nat} {a0 : vp_A} {k2 s2 : Nat} (hz : HZ g x kc y) (hk2 : k2 = kc + 1) (hn' : y.2.2 + 2 ≤ 1000) (h2 : va_S (Ag g) x.2.2.2.2.1.heap H1 locs) (h4 : LV g nL ls L) (hP : va_P g.2.1 vwCl (wld g y M ++ [(q, .inl (cA, a0))]) H1) (hD : va_D (Ag g) (wld g y M ++ [(q, .inl (cA, a0))])) (ent : entK g (psh y (t, n)) (zM M (y.2.2 + 1)) (y.2.2 + 1) (t, n) = .inl (cA, a0))
    (kk : HZ g x (kc + 1) (psh y (t, n)) → GG g x nL Q k2 s2 (psh y (t, n)) (zM M (y.2.2 + 1)) (pc + 2) L (.ref (y.2.2 + 1) :: S)) : WX x H1 locs k2 s2 Q (F0 x.2.2.2.2.2.1 (pc + 2) ls (.ref q :: S.map (va g))) := by
  intro Tt hT X
  have h9 : x.2.2.2.2.1.heap.size + kc = bs g + y.2.2 := hz
  have hz1 : H1.size ≤ bs g + y.2.2 + 1 := by
    have := X.heapSize
    rw [hT] at this
    omega
  have hq := new_at hP hD hz1
  subst hq
  have hP' : va_P g.2.1 vwCl (wld g (psh y (t, n)) (zM M (y.2.2 + 1))) H1 := by rw [wld_psh, ent]; exact hP
  have ea : ad g (y.2.2 + 1) = bs g + y.2.2 := by unfold ad; rw [if_pos (by omega)]; rfl
  have k9 := kk (show x.2.2.2.2.1.heap.size + (kc + 1) = bs g + (y.2.2 + 1) from by omega) H1 locs ls ⟨hP', show y.2.2 + 1 < 1000 by omega⟩ h2 h4
  have es : (Value.ref (y.2.2 + 1) :: S).map (va g) = .ref (bs g + y.2.2) :: S.map (va g) := by
    show Value.ref (ad g (y.2.2 + 1)) :: _ = _
    rw [ea]
  rw [es] at k9
  exact k9 Tt hT X
theorem z_row (p : Nat) : (zM M p).1 p = fun _ => 0 := by funext k; exact if_pos rfl
theorem z_rowL (p : Nat) : (zM M p).2.1 p = fun _ => 0 := by funext k; exact if_pos rfl
theorem tys_eq (C : CX g x own cc nL d mc ms) {t0 : Nat} {cA cB : ClassId} {ty : FieldType} {tys : List (ClassId × FieldType)} (hK : va_K g.2.1 vwCl (tys ++ [(cA, ty)]) x.2.2.2.2.1) (ht : (tysG g)[t0]? = some (cB, ty)) : cA = cB := by
  have h1 := (hK.2 tys.length (cA, ty) (by rw [List.getElem?_append_right (Nat.le_refl _), Nat.sub_self]; rfl)).2
  have h2 := (C.K.2 t0 _ ht).2
  cases ty <;> first | (exact Option.some.inj (h1.symm.trans h2)) | skip
  obtain ⟨_, _, _, _, _, e1⟩ := h1
  obtain ⟨_, _, _, _, _, e2⟩ := h2
  exact Option.some.inj (e1.symm.trans e2)
theorem g_newaI (C : CX g x own cc nL d mc ms) (T : dck cc tb = true) {n : Int32} {N : Nat} (hz : HZ g x kc y) (hi : tb[i]? = some (pc, .newarray .int, 2)) (hl : Cond.arrayClass .int ∈ lw_tbl) (hn0 : ¬ n < 0) (hN : n.toNatClampNeg = N) (hN2 : Nat.ble N 100000 = true) (hn' : y.2.2 + 2 ≤ 1000) (hkc : Nat.ble (kc + 1) mc = true) (hks : Nat.ble (ks + N) ms = true)
    (kk : HZ g x (kc + 1) (psh y (1, N)) → GG g x nL Q (kc + 1) (ks + N) (psh y (1, N)) (zM M (y.2.2 + 1)) (pc + 2) L (.ref (y.2.2 + 1) :: S)) : GG g x nL Q kc ks y M pc L (.int n :: S) := by
  intro H locs ls h1 h2 h4
  have hR : RLE x.2.2.2.1 d mc ms := C.2.2.2.2.2.1
  refine va_newa (atype := .int) (ty := .int) (N' := N) (a0 := (N, .inl (fun _ => 0))) C.1 C.2.1 (C.word hl rfl) rfl C.K h1.1 wld_D h2 (fun q hq => Nat.le_trans C.2.2.2.2.2.2.2.2.1 hq) (fun cA => by rw [vp_cell_i]; rfl) hn0 hN (by have := Nat.le_of_ble_eq_true hN2; show N * 4 ≤ 536870912; omega) (by rw [hR.2.2.1]; exact Nat.le_of_ble_eq_true hkc) (by rw [hR.2.2.2]; exact Nat.le_of_ble_eq_true hks) (dcg T hi) (fun q cA H1 hK hP hD hS => ?_)
  have e := tys_eq C hK (t0 := 0) rfl
  exact g_newaX C hz rfl hn' hS h4 hP hD (by unfold entK; rw [if_neg (by decide), if_pos rfl, z_row, e]) kk
theorem g_newaB (C : CX g x own cc nL d mc ms) (T : dck cc tb = true) {n : Int32} {N : Nat} (hz : HZ g x kc y) (hi : tb[i]? = some (pc, .newarray .byte, 2)) (hl : Cond.arrayClass .byte ∈ lw_tbl) (hn0 : ¬ n < 0) (hN : n.toNatClampNeg = N) (hN2 : Nat.ble N 100000 = true) (hn' : y.2.2 + 2 ≤ 1000) (hkc : Nat.ble (kc + 1) mc = true) (hks : Nat.ble (ks + N) ms = true)
    (kk : HZ g x (kc + 1) (psh y (2, N)) → GG g x nL Q (kc + 1) (ks + N) (psh y (2, N)) (zM M (y.2.2 + 1)) (pc + 2) L (.ref (y.2.2 + 1) :: S)) : GG g x nL Q kc ks y M pc L (.int n :: S) := by
  intro H locs ls h1 h2 h4
  have hR : RLE x.2.2.2.1 d mc ms := C.2.2.2.2.2.1
  refine va_newa (atype := .byte) (ty := .byte) (N' := N) (a0 := (N, .inl (fun _ => 0))) C.1 C.2.1 (C.word hl rfl) rfl C.K h1.1 wld_D h2 (fun q hq => Nat.le_trans C.2.2.2.2.2.2.2.2.1 hq) (fun cA => by rw [vp_cell_i]; rfl) hn0 hN (by have := Nat.le_of_ble_eq_true hN2; show N * 1 ≤ 536870912; omega) (by rw [hR.2.2.1]; exact Nat.le_of_ble_eq_true hkc) (by rw [hR.2.2.2]; exact Nat.le_of_ble_eq_true hks) (dcg T hi) (fun q cA H1 hK hP hD hS => ?_)
  have e := tys_eq C hK (t0 := 1) rfl
  exact g_newaX C hz rfl hn' hS h4 hP hD (by unfold entK; rw [if_neg (by decide), if_neg (by decide), if_pos rfl, z_row, e]) kk
theorem g_newaL (C : CX g x own cc nL d mc ms) (T : dck cc tb = true) {n : Int32} {N : Nat} (hz : HZ g x kc y) (hi : tb[i]? = some (pc, .newarray .long, 2)) (hl : Cond.arrayClass .long ∈ lw_tbl) (hn0 : ¬ n < 0) (hN : n.toNatClampNeg = N) (hN2 : Nat.ble N 100000 = true) (hn' : y.2.2 + 2 ≤ 1000) (hkc : Nat.ble (kc + 1) mc = true) (hks : Nat.ble (ks + N) ms = true)
    (kk : HZ g x (kc + 1) (psh y (3, N)) → GG g x nL Q (kc + 1) (ks + N) (psh y (3, N)) (zM M (y.2.2 + 1)) (pc + 2) L (.ref (y.2.2 + 1) :: S)) : GG g x nL Q kc ks y M pc L (.int n :: S) := by
  intro H locs ls h1 h2 h4
  have hR : RLE x.2.2.2.1 d mc ms := C.2.2.2.2.2.1
  refine va_newa (atype := .long) (ty := .long) (N' := N) (a0 := (N, .inr (.inl (fun _ => 0)))) C.1 C.2.1 (C.word hl rfl) rfl C.K h1.1 wld_D h2 (fun q hq => Nat.le_trans C.2.2.2.2.2.2.2.2.1 hq) (fun cA => by rw [vp_cell_l]; rfl) hn0 hN (by have := Nat.le_of_ble_eq_true hN2; show N * 8 ≤ 536870912; omega) (by rw [hR.2.2.1]; exact Nat.le_of_ble_eq_true hkc) (by rw [hR.2.2.2]; exact Nat.le_of_ble_eq_true hks) (dcg T hi) (fun q cA H1 hK hP hD hS => ?_)
  have e := tys_eq C hK (t0 := 2) rfl
  exact g_newaX C hz rfl hn' hS h4 hP hD (by unfold entK; rw [if_neg (by decide), if_neg (by decide), if_neg (by decide), if_pos rfl, z_rowL, e]) kk
theorem g_newaS (C : CX g x own cc nL d mc ms) (T : dck cc tb = true) {idx : Nat} {n : Int32} {N : Nat} (hz : HZ g x kc y) (hi : tb[i]? = some (pc, .anewarray idx, 3)) (hl : Cond.classLink own idx "java/lang/String" ∈ lw_tbl) (ho : Cond.arrayOver (.object "java/lang/String") ∈ lw_tbl) (hn0 : ¬ n < 0) (hN : n.toNatClampNeg = N) (hN2 : Nat.ble N 100000 = true) (hn' : y.2.2 + 2 ≤ 1000) (hkc : Nat.ble (kc + 1) mc = true) (hks : Nat.ble (ks + N) ms = true)
    (kk : HZ g x (kc + 1) (psh y (4, N)) → GG g x nL Q (kc + 1) (ks + N) (psh y (4, N)) (zM M (y.2.2 + 1)) (pc + 1 + 2) L (.ref (y.2.2 + 1) :: S)) : GG g x nL Q kc ks y M pc L (.int n :: S) := by
  intro H locs ls h1 h2 h4
  have hR : RLE x.2.2.2.1 d mc ms := C.2.2.2.2.2.1
  have hao : va_AO "java/lang/String" x.2.2.2.2.1 := va_AO.moved (C.2.2.2.2.2.2.2.1).alike (va_AO.of (C.2.2.2.2.2.2.1.1 _ ho))
  refine va_newq (N' := N) C.1 C.2.1 C.2.2.2.1 (C.word hl rfl) hao C.K h1.1 wld_D h2 (fun q hq => Nat.le_trans C.2.2.2.2.2.2.2.2.1 hq) hn0 hN (by have := Nat.le_of_ble_eq_true hN2; omega) (by rw [hR.2.2.1]; exact Nat.le_of_ble_eq_true hkc) (by rw [hR.2.2.2]; exact Nat.le_of_ble_eq_true hks) (dcg T hi) (fun q cA H1 hK hP hD hS => ?_)
  have e := tys_eq C hK (t0 := 3) rfl
  refine g_newaX (pc := pc + 1) C hz rfl hn' hS h4 hP hD ?_ kk
  unfold entK
  rw [if_neg (by decide), if_neg (by decide), if_neg (by decide), if_neg (by decide), e]
  have e2 : (fun j => ado g ((psh y (4, N)).2.1 (y.2.2 + 1) j)) = fun _ => none := by
    funext j
    have : (psh y (4, N)).2.1 (y.2.2 + 1) j = 0 := if_pos rfl
    rw [this]; rfl
  rw [e2]
theorem slot_wF {p ci r k v : Nat} (hp : p ≠ r) : slot g (wF y r k v) M p ci = slot g y M p ci := by
  funext j
  unfold slot wF
  rw [show u2 y.2.1 r k v p = y.2.1 p from u2_p _ _ _ _ hp]
theorem ent_wF {r k v : Nat} : ∀ p, p ≠ r → ∀ c', entK g (wF y r k v) M p c' = entK g y M p c' := by
  intro p hp c'
  unfold entK
  rw [slot_wF hp]
  have e : (wF y r k v).2.1 p = y.2.1 p := u2_p _ _ _ _ hp
  simp only [e]
theorem wld_wF {r k v : Nat} {c : Nat × Nat} {e' : va_E} (h : kd y r = c) (hc : c.1 ≠ 9) (hn : y.2.2 < 1000) (he : entK g (wF y r k v) M r c = e') : (wld g y M).set (r - 1) (ad g r, e') = wld g (wF y r k v) M := by
  have hr : 1 ≤ r ∧ r ≤ y.2.2 ∧ y.1 r = c := by
    unfold kd at h
    split at h
    · rename_i hr; exact ⟨hr.1, hr.2, h⟩
    · exact absurd (by rw [← h]) hc
  obtain ⟨h1, h2, h3⟩ := hr
  apply List.ext_getElem?
  intro j
  rw [List.getElem?_set]
  by_cases hk : r - 1 = j
  · subst hk
    rw [if_pos rfl, if_pos (by rw [wld_len]; omega), wld_get (y := wF y r k v) (M := M) (r := r) (c := c) h hc hn, he]
  · rw [if_neg hk]
    unfold wld
    rw [List.getElem?_map, List.getElem?_map]
    show _ = Option.map _ (List.range y.2.2)[j]?
    cases hx : (List.range y.2.2)[j]? with
    | none => rfl
    | some i =>
      have hi : i = j := by
        obtain ⟨h1, h2⟩ := List.getElem?_eq_some_iff.mp hx
        simp at h2; omega
      simp only [Option.map_some]
      rw [ent_wF (i + 1) (by omega)]; rfl
/-- a final field of references, in its constructor -/
theorem g_putF (C : CX g x own cc nL d mc ms) (T : dck cc tb = true) {idx ci k r v : Nat} {ty : FieldType} {n : Nat} {out : Lay × Mem} (R : RTI g x Q mc ms n out) (hi : tb[i]? = some (pc, .putfield idx, 3)) (hF : ∃ q : vw_C, CLS ci q ∧ k < q.2.2 ∧ Cond.fieldLink own idx (q.2.1 k).1 (q.2.1 k).2.1 (q.2.1 k).2.2.1 ∈ lw_tbl ∧ (q.2.1 k).1 = own) (hty : FLT ci k ty true) (hr : (∃ s, ty = .object s) ∨ ∃ s, ty = .array s) (ht : ftag ci k = 1) (hv : ¬ v = 0) (hk : kd y r = (0, ci)) (kk : GG g x nL Q kc ks (wF y r k v) M (pc + 3) L S) : GG g x nL Q kc ks y M pc L (.ref v :: .ref r :: S) := by
  intro H locs ls h1 h2 h4
  obtain ⟨q, hc, hkN, hlk, hown⟩ := hF
  obtain ⟨hty1, hty2⟩ := hty q hc.1
  have he : (wld g y M)[r - 1]? = some (ad g r, .inr (ci, (List.range (nfl ci)).map (slot g y M r ci))) := wld_get (g := g) (M := M) hk (show (0 : Nat) ≠ 9 by decide) h1.2
  have hs : slot g (wF y r k v) M r ci k = va g (.ref v) := by
    unfold slot wF rfv
    rw [if_neg (by rw [ht]; decide), if_pos ht, u2_s, if_neg hv]
  have ho : ∀ j, j ≠ k → slot g (wF y r k v) M r ci j = slot g y M r ci j := by
    intro j hj
    unfold slot wF
    rw [show u2 y.2.1 r k v r j = y.2.1 r j from u2_k _ _ _ _ _ hj]
  have hfs : ((List.range (nfl ci)).map (slot g y M r ci)).set k (va g (.ref v)) = (List.range (nfl ci)).map (slot g (wF y r k v) M r ci) := fs_set _ _ _ _ _ hs ho
  have hw : (wld g y M).set (r - 1) (ad g r, .inr (ci, ((List.range (nfl ci)).map (slot g y M r ci)).set k (va g (.ref v)))) = wld g (wF y r k v) M := wld_wF (c := (0, ci)) hk (show (0 : Nat) ≠ 9 by decide) h1.2 (by rw [hfs]; rfl)
  have hl : k < ((List.range (nfl ci)).map (slot g y M r ci)).length := by rw [List.length_map, List.length_range, hc.2.2.2.2]; exact hkN
  obtain ⟨ty0, hty0⟩ := hc.2.2.1
  exact va_putF (C := q.1) (T := q.2.1) (N := q.2.2) C.1 C.2.1 (C.uws hc) (fun w h => h) ty0 hty0 hc.2.2.2.1 C.2.2.2.1 C.K h1.1 wld_D h2 (r - 1) he hc.1 k hkN (C.word hlk rfl) (fun _ h => h) hty2 R.2.2 hown hty1 (by rcases hr with ⟨s, rfl⟩ | ⟨s, rfl⟩ <;> rfl) (by rcases hr with ⟨s, rfl⟩ | ⟨s, rfl⟩ <;> rfl) hl (dcg T hi)
    (fun H1 locs1 a b c => kk H1 locs1 ls ⟨by rw [← hw]; exact a, h1.2⟩ c h4)
/-- a String constant into a row of Strings -/
theorem g_astS (C : CX g x own cc nL d mc ms) (T : dck cc tb = true) {r k : Nat} {j : Int32} (hi : tb[i]? = some (pc, .aastore, 1)) (hs : k < nStr) (hk : (kd y r).1 = 4 ∧ ¬ (j < 0 ∨ (kd y r).2 ≤ j.toNatClampNeg)) (kk : GG g x nL Q kc ks (wF y r j.toNatClampNeg (1000 + k)) M (pc + 1) L S) : GG g x nL Q kc ks y M pc L (.ref (1000 + k) :: .int j :: .ref r :: S) := by
  intro H locs ls h1 h2 h4
  have he := wld_get (g := g) (M := M) (r := r) (c := kd y r) rfl (by rw [hk.1]; decide) h1.2
  have hw : (wld g y M).set (r - 1) (ad g r, .inl (g.2.2.1 3, (kd y r).2, .inr (.inr (.inr (.inr (va_up (fun q => ado g (y.2.1 r q)) j.toNatClampNeg (some (ad g (1000 + k))))))))) = wld g (wF y r j.toNatClampNeg (1000 + k)) M := by
    refine wld_wF (c := kd y r) rfl (by rw [hk.1]; decide) h1.2 ?_
    unfold entK
    rw [if_neg (by rw [hk.1]; decide), if_neg (by rw [hk.1]; decide), if_neg (by rw [hk.1]; decide), if_neg (by rw [hk.1]; decide)]
    congr 5
    funext q
    unfold wF va_up
    by_cases hq : q = j.toNatClampNeg
    · subst hq
      simp only [u2_s, if_true]
      unfold ado
      rw [if_neg (by omega)]
    · rw [if_neg hq]
      simp only [u2_k _ _ _ _ _ hq]
  unfold entK at he
  rw [if_neg (by rw [hk.1]; decide), if_neg (by rw [hk.1]; decide), if_neg (by rw [hk.1]; decide), if_neg (by rw [hk.1]; decide)] at he
  have hany : va_Any "java/lang/String" x.2.2.2.2.1 H (ad g (1000 + k)) := by
    obtain ⟨cell, c1, c2, c3, -⟩ := (va_O.moved (C.2.2.2.2.2.2.2.1).alike (C.2.2.2.2.2.2.1.2.2.2.1.1 k hs).1).kept (C.low) |>.kept h2.2.1
    obtain ⟨kC, hkC, -⟩ := Vm.findClass_spec c3
    refine ⟨cell, by rw [SF.adK hs]; exact c1, c2, ⟨kC, hkC⟩, fun comp hcomp => ?_⟩
    rw [c3] at hcomp
    cases hcomp
    exact va_asg _ _
  exact va_astqM C.1 C.2.1 C.K h1.1 wld_D h2 (r - 1) 3 he rfl hany hk.2 (dcg T hi) (fun H1 locs1 a b c => kk H1 locs1 ls ⟨by rw [← hw]; exact a, h1.2⟩ c h4)
theorem g_vretI (C : CX g x own cc nL d mc ms) {n : Nat} (R : RTI g x Q mc ms n (y, M)) (hz : HZ g x kc y) (hn : kc = mc) (hn2 : y.2.2 = n) (hks : Nat.ble ks ms = true) (T : dck cc tb = true) (hi : tb[i]? = some (pc, .return_, 1)) : GG g x nL Q kc ks y M pc L [] := by
  intro H locs ls h1 h2 h4
  subst hn
  refine W.widen (Nat.le_refl _) (Nat.le_of_ble_eq_true hks) ?_
  intro Tt hT X
  have hsz : H.size = bs g + y.2.2 := by
    have := X.heapSize
    rw [hT] at this
    have h9 : x.2.2.2.2.1.heap.size + kc = bs g + y.2.2 := hz
    have := low_size C h1 h2
    omega
  obtain ⟨rfl, hr, -⟩ := R
  exact (W.vret C.1 C.2.1 hr (fun t ht hw => ⟨rfl, by rw [ht]; exact h1, h2.F ht, by rw [ht]; exact hsz, hn2⟩) (fun q hq => h2.2.2 q hq) (dcg T hi) C.2.2.2.2.1) Tt hT X
/-- the call of a constructor -/
theorem g_callI (C : CX g x own cc nL d mc ms) (T : dck cc tb = true) {idx r n maxL d2 m2 s2 : Nat} {yn : MethodName} {c2 : ByteArray} {f : Option (Lay × Mem)} {y1 : Lay} {M1 : Mem} (av : List Value) (hz : HZ g x kc y) (hi : tb[i]? = some (pc, .invokespecial idx, 3)) (hW : MW yn c2 maxL none n) (hV : yn.name = "<init>" ∧ Cond.instanceMethod yn ∈ lw_tbl) (hl : Cond.methodLink own idx yn ∈ lw_tbl ∨ ∃ host, Cond.methodLinkNest own idx yn host ∈ lw_tbl) (hd : Nat.ble (d2 + 1) d = true) (hm : Nat.ble maxL 80 = true) (hn : av.length + 1 = n + 1) (hS8 : Nat.ble ((S.map fun v => v.category).sum) 8 = true)
    (hc : CIt g x.2.1 yn c2 maxL d2 m2 s2 y (.ref r :: av) M f) (hf : f = some (y1, M1)) (hkc : Nat.ble (kc + m2) mc = true) (hks : Nat.ble (ks + s2) ms = true) {S' : List Value} (hst : av.reverse ++ .ref r :: S = S') (k : HZ g x (kc + m2) y1 → GG g x nL Q (kc + m2) (ks + s2) y1 M1 (pc + 3) L S) : GG g x nL Q kc ks y M pc L S' := by
  intro H locs ls h1 h2 h4
  subst hst
  have hR : RLE x.2.2.2.1 d mc ms := C.2.2.2.2.2.1
  intro Tt hT X
  have hsz : H.size = bs g + y.2.2 := by
    have := X.heapSize
    rw [hT] at this
    have h9 : x.2.2.2.2.1.heap.size + kc = bs g + y.2.2 := hz
    have := low_size C h1 h2
    omega
  have hp : PreS x.2.2.2.2.1 H (PI g y (.ref r :: av) M) (.ref (ad g r) :: av.map (va g)) := by
    refine ⟨PI_blind, fun U hU hW => ⟨⟨rfl, by rw [hU]; exact h1, State.WarmedH.trans C.2.2.2.2.2.2.2.1 hW, ?_, ?_⟩, by rw [hU]; exact hsz⟩⟩
    · rw [hU]; exact Nat.le_trans C.2.2.2.2.2.2.2.2.1 h2.1
    · intro q hq
      rw [hU, h2.2.1 q (Nat.lt_of_lt_of_le hq C.2.2.2.2.2.2.2.2.1) (Nat.not_le.mpr hq)]
      exact C.2.2.2.2.2.2.2.2.2 q hq
  have e1 : List.map (va g) (av.reverse ++ .ref r :: S) = (av.map (va g)).reverse ++ .ref (ad g r) :: S.map (va g) := by
    rw [List.map_append, List.map_reverse]; rfl
  have e2 : 2 * 0 + (List.map (fun v => Value.category v) (S.map (va g))).sum ≤ 8 := by
    have := cat_le (g := g) hS8
    omega
  have e3 : kc + m2 ≤ x.2.2.2.1.cells ∧ ks + s2 ≤ x.2.2.2.1.slots := ⟨by rw [hR.2.2.1]; exact Nat.le_of_ble_eq_true hkc, by rw [hR.2.2.2]; exact Nat.le_of_ble_eq_true hks⟩
  have e4 : (av.map (va g)).length = n := by rw [List.length_map]; omega
  have run : va_Run x.1 x.2.1 x.2.2.1 x.2.2.2.1 x.2.2.2.2.1 x.2.2.2.2.2.1 x.2.2.2.2.2.2.1 x.2.2.2.2.2.2.2.1 x.2.2.2.2.2.2.2.2.1 x.2.2.2.2.2.2.2.2.2 H locs kc ks m2 s2 (F0 x.2.2.2.2.2.1 pc ls (List.map (va g) (av.reverse ++ .ref r :: S))) (S.map (va g)) (QI g (y.2.2 + m2) (y1, M1) (Value.ref (ad g r) :: av.map (va g)).toArray) (Ag g) := by
    rcases hl with hl | ⟨host, hl⟩
    · exact va_runI ⟨C.1, C.2.1, C.2.2.1, C.2.2.2.1, fun w (hw : w ∈ ([] : List Cond)) => absurd hw List.not_mem_nil⟩ (hc _ hf) ⟨callB0 C hW hl hd hm, hV.1, C.word hV.2 rfl⟩ hp rfl e4 h4.1.1 e1 e2 (dcg T hi) e3
    · have h9 : d2 + 1 ≤ d := Nat.le_of_ble_eq_true hd
      have h8 : maxL ≤ 80 := Nat.le_of_ble_eq_true hm
      have h7 : 8 + (maxL + 11) + (100 * d2 + 300) ≤ 100 * d + 300 := by omega
      have h6 : d2 + 10 + 1 ≤ d + 10 := by omega
      have cn : va_CN x.2.2.2.1 x.2.2.2.2.1 x.2.2.2.2.2.2.1 own idx yn host c2 maxL none [Cond.code yn c2 maxL none] (rmD d2 m2 s2) m2 s2 n := by
        refine ⟨⟨rfl, rfl, Nat.le_trans h6 hR.1, Nat.le_trans h7 hR.2.1, ?_, List.mem_singleton_self _⟩, C.word hW.1 rfl, C.word hW.2.1 rfl, hW.2.2.1, ?_, va_Nw.use rfl (C.nestM hl)⟩
        · intro w hw a' U hWm
          rw [List.mem_singleton.mp hw]
          exact word_at hWm (good_of_word rfl) (C.word hW.1 rfl)
        · intro sig h
          have h3 := hW.2.2.2
          rw [h] at h3
          exact (Option.some.inj h3).symm
      exact va_runIN ⟨C.1, C.2.1, C.2.2.1, C.2.2.2.1, fun w (hw : w ∈ ([] : List Cond)) => absurd hw List.not_mem_nil⟩ (hc _ hf) ⟨cn, hV.1, C.word hV.2 rfl⟩ hp rfl e4 h4.1.1 e1 e2 (dcg T hi) e3
  obtain ⟨v, st₀, t, T', L', h0, X', hL, f1, f2, ⟨hv, hRl, ⟨hz9, hk9⟩, hsz2, hn2⟩, st⟩ := run Tt hT X
  rw [h0] at hz9 hk9
  have hS : va_S (Ag g) x.2.2.2.2.1.heap T'.heap (locs ++ L') := by
    refine ⟨Nat.le_trans h2.1 (by rw [f1]; exact hz9), fun q h5 h6 => ?_, fun q hq => ?_⟩
    · rw [f1, hk9 q (Nat.lt_of_lt_of_le h5 h2.1) h6]; exact h2.2.1 q h5 h6
    · rcases List.mem_append.mp hq with h | h
      · exact h2.2.2 q h
      · exact hL q h
  have hz2 : HZ g x (kc + m2) y1 := by
    have h9 : x.2.2.2.2.1.heap.size + kc = bs g + y.2.2 := hz
    have hn3 : y1.2.2 = y.2.2 + m2 := hn2
    show x.2.2.2.2.1.heap.size + (kc + m2) = bs g + y1.2.2
    omega
  obtain ⟨t2, a1, b1⟩ := k hz2 T'.heap (locs ++ L') ls (by rw [f1]; exact hRl) hS h4 T' rfl X'
  cases hv
  exact ⟨t2, st t2 a1, b1⟩
theorem g_nm {Y : Lay} {N : Mem} (k : ∀ y1 : Lay, y1 = Y → ∀ M1 : Mem, M1 = N → GG g x nL Q kc ks y1 M1 pc L S) : GG g x nL Q kc ks Y N pc L S := k _ rfl _ rfl
theorem g_nmy {Y : Lay} (k : ∀ y1 : Lay, y1 = Y → GG g x nL Q kc ks y1 M pc L S) : GG g x nL Q kc ks Y M pc L S := k _ rfl
end GR9
end
section
def isSub : List Cond → List Cond → Bool
  | [], _ => true
  | _ :: _, [] => false
  | a :: as, b :: bs => if a = b then isSub as bs else isSub (a :: as) bs
theorem isSub_mem : ∀ (bs as : List Cond), isSub as bs = true → ∀ w ∈ as, w ∈ bs := by
  intro bs
  induction bs with
  | nil =>
    intro as h w hw
    cases as with
    | nil => exact hw
    | cons a as => exact absurd h (by simp [isSub])
  | cons b bs ih =>
    intro as h w hw
    cases as with
    | nil => exact absurd hw List.not_mem_nil
    | cons a as =>
      simp only [isSub] at h
      by_cases e : a = b
      · rw [if_pos e] at h
        rcases List.mem_cons.mp hw with r | r
        · rw [r, e]; exact List.mem_cons_self
        · exact List.mem_cons_of_mem _ (ih as h w r)
      · rw [if_neg e] at h
        exact List.mem_cons_of_mem _ (ih (a :: as) h w hw)
theorem tin_0 {w : Cond} (h : w ∈ k2_sels lw_privs) : w ∈ lw_tbl := List.mem_append_left _ h
theorem tin_1 {w : Cond} (h : w ∈ tables_1_1) : w ∈ lw_tbl := List.mem_append_right _ (List.mem_append_left _ h)
theorem tin_2 {w : Cond} (h : w ∈ tables_1_2) : w ∈ lw_tbl := List.mem_append_right _ (List.mem_append_right _ (List.mem_append_left _ h))
theorem tin_3 {w : Cond} (h : w ∈ tables_1_3) : w ∈ lw_tbl := List.mem_append_right _ (List.mem_append_right _ (List.mem_append_right _ (List.mem_append_left _ h)))
theorem tin_4 {w : Cond} (h : w ∈ tables_1_4) : w ∈ lw_tbl := List.mem_append_right _ (List.mem_append_right _ (List.mem_append_right _ (List.mem_append_right _ (List.mem_append_left _ h))))
theorem tin_5 {w : Cond} (h : w ∈ tables_1_5) : w ∈ lw_tbl := List.mem_append_right _ (List.mem_append_right _ (List.mem_append_right _ (List.mem_append_right _ (List.mem_append_right _ (List.mem_append_left _ h)))))
theorem tin_6 {w : Cond} (h : w ∈ tables_1_6) : w ∈ lw_tbl := List.mem_append_right _ (List.mem_append_right _ (List.mem_append_right _ (List.mem_append_right _ (List.mem_append_right _ (List.mem_append_right _ (List.mem_append_left _ h))))))
theorem tin_7 {w : Cond} (h : w ∈ tables_1_7) : w ∈ lw_tbl := List.mem_append_right _ (List.mem_append_right _ (List.mem_append_right _ (List.mem_append_right _ (List.mem_append_right _ (List.mem_append_right _ (List.mem_append_right _ (List.mem_append_left _ h)))))))
theorem tin_8 {w : Cond} (h : w ∈ tables_1_8) : w ∈ lw_tbl := List.mem_append_right _ (List.mem_append_right _ (List.mem_append_right _ (List.mem_append_right _ (List.mem_append_right _ (List.mem_append_right _ (List.mem_append_right _ (List.mem_append_right _ (List.mem_append_left _ h))))))))
theorem tin_9 {w : Cond} (h : w ∈ tables_1_9) : w ∈ lw_tbl := List.mem_append_right _ (List.mem_append_right _ (List.mem_append_right _ (List.mem_append_right _ (List.mem_append_right _ (List.mem_append_right _ (List.mem_append_right _ (List.mem_append_right _ (List.mem_append_right _ h))))))))
def nd_0 : List Cond := [(Jvm.Cond.selects "BlueBag$Coast" ({ cls := "BlueBag$Coast", name := "bitsBeside", desc := "(I)I" } : Jvm.MethodName) ({ cls := "BlueBag$Coast", name := "bitsBeside", desc := "(I)I" } : Jvm.MethodName)), (Jvm.Cond.selects "BlueBag$Sky" ({ cls := "BlueBag$Sky", name := "setValues", desc := "(I)V" } : Jvm.MethodName) ({ cls := "BlueBag$Sky", name := "setValues", desc := "(I)V" } : Jvm.MethodName)), (Jvm.Cond.selects "BlueBag$Sky" ({ cls := "BlueBag$Sky", name := "drip", desc := "(II)V" } : Jvm.MethodName) ({ cls := "BlueBag$Sky", name := "drip", desc := "(II)V" } : Jvm.MethodName)), (Jvm.Cond.selects "BlueBag$Sky" ({ cls := "BlueBag$Sky", name := "markOverdone", desc := "()V" } : Jvm.MethodName) ({ cls := "BlueBag$Sky", name := "markOverdone", desc := "()V" } : Jvm.MethodName)), (Jvm.Cond.selects "BlueBag$Sky" ({ cls := "BlueBag$Sky", name := "fade", desc := "()V" } : Jvm.MethodName) ({ cls := "BlueBag$Sky", name := "fade", desc := "()V" } : Jvm.MethodName)), (Jvm.Cond.selects "BlueBag$Sky" ({ cls := "BlueBag$Sky", name := "fadeOf", desc := "(I)I" } : Jvm.MethodName) ({ cls := "BlueBag$Sky", name := "fadeOf", desc := "(I)I" } : Jvm.MethodName)), (Jvm.Cond.selects "BlueBag" ({ cls := "BlueBag", name := "lookAhead", desc := "(I)V" } : Jvm.MethodName) ({ cls := "BlueBag", name := "lookAhead", desc := "(I)V" } : Jvm.MethodName)), (Jvm.Cond.selects "BlueBag" ({ cls := "BlueBag", name := "needWithin", desc := "(III)V" } : Jvm.MethodName) ({ cls := "BlueBag", name := "needWithin", desc := "(III)V" } : Jvm.MethodName)), (Jvm.Cond.selects "BlueBag" ({ cls := "BlueBag", name := "needWhat", desc := "(II)V" } : Jvm.MethodName) ({ cls := "BlueBag", name := "needWhat", desc := "(II)V" } : Jvm.MethodName)), (Jvm.Cond.selects "BlueBag" ({ cls := "BlueBag", name := "drawAhead", desc := "()V" } : Jvm.MethodName) ({ cls := "BlueBag", name := "drawAhead", desc := "()V" } : Jvm.MethodName)), (Jvm.Cond.selects "BlueBagModel" ({ cls := "BlueBagModel", name := "begin", desc := "(I)V" } : Jvm.MethodName) ({ cls := "BlueBagModel", name := "begin", desc := "(I)V" } : Jvm.MethodName))]
set_option maxRecDepth 100000 in
theorem sb_0 : isSub nd_0 ((k2_sels lw_privs).drop 0) = true := by decide +kernel
theorem im_0 {i : Nat} {w : Cond} (h : nd_0[i]? = some w) : w ∈ lw_tbl := tin_0 (List.mem_of_mem_drop (isSub_mem _ _ sb_0 w (List.mem_of_getElem? h)))
set_option maxRecDepth 100000 in
theorem cw_141 : (Jvm.Cond.code ({ cls := "java/lang/Object", name := "<init>", desc := "()V" } : Jvm.MethodName) object_method_1_code (1 : Nat) (Option.none : Option Jvm.ClassFile.FieldType)) ∈ lw_tbl := tin_1 (List.mem_of_getElem? (i := 34) rfl)
set_option maxRecDepth 100000 in
theorem cw_146 : (Jvm.Cond.code ({ cls := "BlueBag$Tape", name := "<init>", desc := "()V" } : Jvm.MethodName) prog_11_method_1_code (1 : Nat) (Option.none : Option Jvm.ClassFile.FieldType)) ∈ lw_tbl := tin_1 (List.mem_of_getElem? (i := 39) rfl)
set_option maxRecDepth 100000 in
theorem cw_161 : (Jvm.Cond.code ({ cls := "BlueBag$Coast", name := "<init>", desc := "()V" } : Jvm.MethodName) prog_3_method_1_code (1 : Nat) (Option.none : Option Jvm.ClassFile.FieldType)) ∈ lw_tbl := tin_1 (List.mem_of_getElem? (i := 54) rfl)
set_option maxRecDepth 100000 in
theorem cw_167 : (Jvm.Cond.code ({ cls := "BlueBag$Rule", name := "<init>", desc := "()V" } : Jvm.MethodName) prog_7_method_1_code (1 : Nat) (Option.none : Option Jvm.ClassFile.FieldType)) ∈ lw_tbl := tin_1 (List.mem_of_getElem? (i := 60) rfl)
set_option maxRecDepth 100000 in
theorem cw_183 : (Jvm.Cond.code ({ cls := "BlueBag$Coast", name := "begin", desc := "()V" } : Jvm.MethodName) prog_3_method_2_code (1 : Nat) (Option.none : Option Jvm.ClassFile.FieldType)) ∈ lw_tbl := tin_1 (List.mem_of_getElem? (i := 76) rfl)
set_option maxRecDepth 100000 in
theorem cw_187 : (Jvm.Cond.code ({ cls := "BlueBag$Coast", name := "shape", desc := "(II)V" } : Jvm.MethodName) prog_3_method_3_code (4 : Nat) (Option.none : Option Jvm.ClassFile.FieldType)) ∈ lw_tbl := tin_1 (List.mem_of_getElem? (i := 80) rfl)
set_option maxRecDepth 100000 in
theorem cw_191 : (Jvm.Cond.code ({ cls := "BlueBag$Coast", name := "cells", desc := "()I" } : Jvm.MethodName) prog_3_method_6_code (1 : Nat) (Option.some Jvm.ClassFile.FieldType.int)) ∈ lw_tbl := tin_1 (List.mem_of_getElem? (i := 84) rfl)
set_option maxRecDepth 100000 in
theorem cw_195 : (Jvm.Cond.code ({ cls := "BlueBag$Coast", name := "bitsBeside", desc := "(I)I" } : Jvm.MethodName) prog_3_method_4_code (3 : Nat) (Option.some Jvm.ClassFile.FieldType.int)) ∈ lw_tbl := tin_1 (List.mem_of_getElem? (i := 88) rfl)
set_option maxRecDepth 100000 in
theorem cw_199 : (Jvm.Cond.code ({ cls := "BlueBag$Coast", name := "columnOf", desc := "(I)I" } : Jvm.MethodName) prog_3_method_8_code (2 : Nat) (Option.some Jvm.ClassFile.FieldType.int)) ∈ lw_tbl := tin_1 (List.mem_of_getElem? (i := 92) rfl)
set_option maxRecDepth 100000 in
theorem cw_203 : (Jvm.Cond.code ({ cls := "BlueBag$Rule", name := "clear", desc := "()V" } : Jvm.MethodName) prog_7_method_2_code (1 : Nat) (Option.none : Option Jvm.ClassFile.FieldType)) ∈ lw_tbl := tin_1 (List.mem_of_getElem? (i := 96) rfl)
set_option maxRecDepth 100000 in
theorem cw_253 : (Jvm.Cond.code ({ cls := "BlueBag$CoastReader", name := "<init>", desc := "(LBlueBag$Tape;)V" } : Jvm.MethodName) prog_4_method_1_code (2 : Nat) (Option.none : Option Jvm.ClassFile.FieldType)) ∈ lw_tbl := tin_1 (List.mem_of_getElem? (i := 146) rfl)
set_option maxRecDepth 100000 in
theorem cw_261 : (Jvm.Cond.code ({ cls := "BlueBag$Sky", name := "<init>", desc := "(LBlueBag$Coast;)V" } : Jvm.MethodName) prog_10_method_1_code (2 : Nat) (Option.none : Option Jvm.ClassFile.FieldType)) ∈ lw_tbl := tin_1 (List.mem_of_getElem? (i := 154) rfl)
set_option maxRecDepth 100000 in
theorem cw_266 : (Jvm.Cond.code ({ cls := "BlueBag$Sky", name := "begin", desc := "()V" } : Jvm.MethodName) prog_10_method_2_code (2 : Nat) (Option.none : Option Jvm.ClassFile.FieldType)) ∈ lw_tbl := tin_1 (List.mem_of_getElem? (i := 159) rfl)
set_option maxRecDepth 100000 in
theorem cw_320 : (Jvm.Cond.code ({ cls := "BlueBag$Tokens", name := "<init>", desc := "(LBlueBag$Tape;)V" } : Jvm.MethodName) prog_12_method_1_code (2 : Nat) (Option.none : Option Jvm.ClassFile.FieldType)) ∈ lw_tbl := tin_1 (List.mem_of_getElem? (i := 213) rfl)
def nd_1 : List Cond := [(Jvm.Cond.initialized "BlueBag"), (Jvm.Cond.initialized "BlueBag$Tape"), (Jvm.Cond.initialized "BlueBag$Coast"), (Jvm.Cond.initialized "BlueBag$Rule"), (Jvm.Cond.initialized "BlueBag$CoastReader"), (Jvm.Cond.initialized "BlueBag$Sky"), (Jvm.Cond.initialized "BlueBag$Tokens"), (Jvm.Cond.initialized "BlueBag$RuleReader"), (Jvm.Cond.initialized "BlueBag$Memory"), (Jvm.Cond.initialized "BlueBag$Acts"), (Jvm.Cond.initialized "BlueBag$Sending"), (Jvm.Cond.initialized "BlueBag$Dice"), (Jvm.Cond.initialized "BlueBagModel"), (Jvm.Cond.initialized "java/lang/Throwable"), (Jvm.Cond.initialized "java/lang/Exception"), (Jvm.Cond.initialized "java/lang/RuntimeException"), (Jvm.Cond.initialized "java/lang/IllegalArgumentException"), (Jvm.Cond.initialized "java/lang/String"), (Jvm.Cond.initialized "java/lang/StringLatin1"), (Jvm.Cond.initialized "jdk/internal/util/Preconditions"), (Jvm.Cond.initialized "java/lang/Math"), (Jvm.Cond.initialized "java/lang/System"), (Jvm.Cond.initialized "java/util/NoSuchElementException"), (Jvm.Cond.initialized "java/lang/Integer"), (Jvm.Cond.methodLink "BlueBag" (1 : Nat) ({ cls := "java/lang/Object", name := "<init>", desc := "()V" } : Jvm.MethodName)), (Jvm.Cond.instanceMethod ({ cls := "java/lang/Object", name := "<init>", desc := "()V" } : Jvm.MethodName)), (Jvm.Cond.classLink "BlueBag" (7 : Nat) "BlueBag$Tape"), (Jvm.Cond.instantiable "BlueBag$Tape" (2 : Nat)), (Jvm.Cond.methodLinkNest "BlueBag" (9 : Nat) ({ cls := "BlueBag$Tape", name := "<init>", desc := "()V" } : Jvm.MethodName) "BlueBag"), (Jvm.Cond.instanceMethod ({ cls := "BlueBag$Tape", name := "<init>", desc := "()V" } : Jvm.MethodName)), (Jvm.Cond.methodLink "BlueBag$Tape" (3 : Nat) ({ cls := "java/lang/Object", name := "<init>", desc := "()V" } : Jvm.MethodName)), (Jvm.Cond.fieldLink "BlueBag$Tape" (9 : Nat) "BlueBag$Tape" "bytes" "[B"), (Jvm.Cond.laysFinal "BlueBag$Tape" "BlueBag$Tape" "bytes" "[B"), (Jvm.Cond.lays "BlueBag$Tape" "BlueBag$Tape" "length" "I"), (Jvm.Cond.arrayClass Jvm.ClassFile.FieldType.byte), (Jvm.Cond.classLink "BlueBag" (16 : Nat) "BlueBag$Coast"), (Jvm.Cond.instantiable "BlueBag$Coast" (9 : Nat)), (Jvm.Cond.methodLink "BlueBag" (18 : Nat) ({ cls := "BlueBag$Coast", name := "<init>", desc := "()V" } : Jvm.MethodName)), (Jvm.Cond.instanceMethod ({ cls := "BlueBag$Coast", name := "<init>", desc := "()V" } : Jvm.MethodName)), (Jvm.Cond.methodLink "BlueBag$Coast" (3 : Nat) ({ cls := "java/lang/Object", name := "<init>", desc := "()V" } : Jvm.MethodName)), (Jvm.Cond.classLink "BlueBag$Coast" (15 : Nat) "BlueBag$Rule"), (Jvm.Cond.instantiable "BlueBag$Rule" (3 : Nat)), (Jvm.Cond.methodLinkNest "BlueBag$Coast" (17 : Nat) ({ cls := "BlueBag$Rule", name := "<init>", desc := "()V" } : Jvm.MethodName) "BlueBag"), (Jvm.Cond.instanceMethod ({ cls := "BlueBag$Rule", name := "<init>", desc := "()V" } : Jvm.MethodName)), (Jvm.Cond.methodLink "BlueBag$Rule" (3 : Nat) ({ cls := "java/lang/Object", name := "<init>", desc := "()V" } : Jvm.MethodName)), (Jvm.Cond.fieldLink "BlueBag$Rule" (9 : Nat) "BlueBag$Rule" "code" "[I"), (Jvm.Cond.fieldLink "BlueBag$Rule" (15 : Nat) "BlueBag$Rule" "stack" "[I"), (Jvm.Cond.fieldLink "BlueBag$Rule" (18 : Nat) "BlueBag$Rule" "length" "I"), (Jvm.Cond.laysFinal "BlueBag$Rule" "BlueBag$Rule" "code" "[I"), (Jvm.Cond.laysFinal "BlueBag$Rule" "BlueBag$Rule" "stack" "[I"), (Jvm.Cond.lays "BlueBag$Rule" "BlueBag$Rule" "length" "I"), (Jvm.Cond.arrayClass Jvm.ClassFile.FieldType.int), (Jvm.Cond.methodLink "BlueBag$Coast" (25 : Nat) ({ cls := "BlueBag$Coast", name := "begin", desc := "()V" } : Jvm.MethodName)), (Jvm.Cond.instanceMethod ({ cls := "BlueBag$Coast", name := "begin", desc := "()V" } : Jvm.MethodName)), (Jvm.Cond.selects "BlueBag$Coast" ({ cls := "BlueBag$Coast", name := "begin", desc := "()V" } : Jvm.MethodName) ({ cls := "BlueBag$Coast", name := "begin", desc := "()V" } : Jvm.MethodName)), (Jvm.Cond.methodLink "BlueBag$Coast" (28 : Nat) ({ cls := "BlueBag$Coast", name := "shape", desc := "(II)V" } : Jvm.MethodName)), (Jvm.Cond.instanceMethod ({ cls := "BlueBag$Coast", name := "shape", desc := "(II)V" } : Jvm.MethodName)), (Jvm.Cond.selects "BlueBag$Coast" ({ cls := "BlueBag$Coast", name := "shape", desc := "(II)V" } : Jvm.MethodName) ({ cls := "BlueBag$Coast", name := "shape", desc := "(II)V" } : Jvm.MethodName)), (Jvm.Cond.methodLink "BlueBag$Coast" (54 : Nat) ({ cls := "BlueBag$Coast", name := "cells", desc := "()I" } : Jvm.MethodName)), (Jvm.Cond.instanceMethod ({ cls := "BlueBag$Coast", name := "cells", desc := "()I" } : Jvm.MethodName))]
set_option maxRecDepth 100000 in
theorem sb_1 : isSub nd_1 ((tables_1_1).drop 1) = true := by decide +kernel
theorem im_1 {i : Nat} {w : Cond} (h : nd_1[i]? = some w) : w ∈ lw_tbl := tin_1 (List.mem_of_mem_drop (isSub_mem _ _ sb_1 w (List.mem_of_getElem? h)))
def nd_2 : List Cond := [(Jvm.Cond.selects "BlueBag$Coast" ({ cls := "BlueBag$Coast", name := "cells", desc := "()I" } : Jvm.MethodName) ({ cls := "BlueBag$Coast", name := "cells", desc := "()I" } : Jvm.MethodName)), (Jvm.Cond.methodLink "BlueBag$Coast" (58 : Nat) ({ cls := "BlueBag$Coast", name := "bitsBeside", desc := "(I)I" } : Jvm.MethodName)), (Jvm.Cond.instanceMethod ({ cls := "BlueBag$Coast", name := "bitsBeside", desc := "(I)I" } : Jvm.MethodName)), (Jvm.Cond.methodLink "BlueBag$Coast" (62 : Nat) ({ cls := "BlueBag$Coast", name := "columnOf", desc := "(I)I" } : Jvm.MethodName)), (Jvm.Cond.instanceMethod ({ cls := "BlueBag$Coast", name := "columnOf", desc := "(I)I" } : Jvm.MethodName)), (Jvm.Cond.selects "BlueBag$Coast" ({ cls := "BlueBag$Coast", name := "columnOf", desc := "(I)I" } : Jvm.MethodName) ({ cls := "BlueBag$Coast", name := "columnOf", desc := "(I)I" } : Jvm.MethodName)), (Jvm.Cond.methodLink "BlueBag$Coast" (45 : Nat) ({ cls := "BlueBag$Rule", name := "clear", desc := "()V" } : Jvm.MethodName)), (Jvm.Cond.instanceMethod ({ cls := "BlueBag$Rule", name := "clear", desc := "()V" } : Jvm.MethodName)), (Jvm.Cond.selects "BlueBag$Rule" ({ cls := "BlueBag$Rule", name := "clear", desc := "()V" } : Jvm.MethodName) ({ cls := "BlueBag$Rule", name := "clear", desc := "()V" } : Jvm.MethodName)), (Jvm.Cond.fieldLink "BlueBag$Coast" (48 : Nat) "BlueBag$Coast" "wide" "I"), (Jvm.Cond.fieldLink "BlueBag$Coast" (51 : Nat) "BlueBag$Coast" "high" "I"), (Jvm.Cond.fieldLink "BlueBag$Coast" (32 : Nat) "BlueBag$Coast" "rinse" "I"), (Jvm.Cond.fieldLinkNest "BlueBag$Sky" (89 : Nat) "BlueBag$Coast" "rinse" "I" "BlueBag"), (Jvm.Cond.fieldLink "BlueBag$Coast" (36 : Nat) "BlueBag$Coast" "bound" "I"), (Jvm.Cond.fieldLinkNest "BlueBag$Sky" (98 : Nat) "BlueBag$Coast" "bound" "I" "BlueBag"), (Jvm.Cond.fieldLink "BlueBag$Coast" (39 : Nat) "BlueBag$Coast" "girls" "I"), (Jvm.Cond.fieldLinkNest "BlueBag" (134 : Nat) "BlueBag$Coast" "girls" "I" "BlueBag"), (Jvm.Cond.fieldLinkNest "BlueBag$Sky" (74 : Nat) "BlueBag$Coast" "girls" "I" "BlueBag"), (Jvm.Cond.fieldLink "BlueBag$Coast" (42 : Nat) "BlueBag$Coast" "olds" "I"), (Jvm.Cond.fieldLink "BlueBag$Coast" (9 : Nat) "BlueBag$Coast" "beside" "[I"), (Jvm.Cond.fieldLink "BlueBag$Coast" (18 : Nat) "BlueBag$Coast" "dyes" "LBlueBag$Rule;"), (Jvm.Cond.fieldLinkNest "BlueBag$CoastReader" (38 : Nat) "BlueBag$Coast" "dyes" "LBlueBag$Rule;" "BlueBag"), (Jvm.Cond.fieldLinkNest "BlueBag$Sky" (154 : Nat) "BlueBag$Coast" "dyes" "LBlueBag$Rule;" "BlueBag"), (Jvm.Cond.fieldLink "BlueBag$Coast" (22 : Nat) "BlueBag$Coast" "fades" "LBlueBag$Rule;"), (Jvm.Cond.fieldLinkNest "BlueBag$Sky" (110 : Nat) "BlueBag$Coast" "fades" "LBlueBag$Rule;" "BlueBag"), (Jvm.Cond.lays "BlueBag$Coast" "BlueBag$Coast" "wide" "I"), (Jvm.Cond.lays "BlueBag$Coast" "BlueBag$Coast" "high" "I"), (Jvm.Cond.lays "BlueBag$Coast" "BlueBag$Coast" "rinse" "I"), (Jvm.Cond.lays "BlueBag$Coast" "BlueBag$Coast" "bound" "I"), (Jvm.Cond.lays "BlueBag$Coast" "BlueBag$Coast" "girls" "I"), (Jvm.Cond.lays "BlueBag$Coast" "BlueBag$Coast" "olds" "I"), (Jvm.Cond.laysFinal "BlueBag$Coast" "BlueBag$Coast" "beside" "[I"), (Jvm.Cond.laysFinal "BlueBag$Coast" "BlueBag$Coast" "dyes" "LBlueBag$Rule;"), (Jvm.Cond.laysFinal "BlueBag$Coast" "BlueBag$Coast" "fades" "LBlueBag$Rule;"), (Jvm.Cond.classLink "BlueBag" (23 : Nat) "BlueBag$CoastReader"), (Jvm.Cond.instantiable "BlueBag$CoastReader" (7 : Nat)), (Jvm.Cond.methodLink "BlueBag" (25 : Nat) ({ cls := "BlueBag$CoastReader", name := "<init>", desc := "(LBlueBag$Tape;)V" } : Jvm.MethodName)), (Jvm.Cond.instanceMethod ({ cls := "BlueBag$CoastReader", name := "<init>", desc := "(LBlueBag$Tape;)V" } : Jvm.MethodName)), (Jvm.Cond.methodLink "BlueBag$CoastReader" (3 : Nat) ({ cls := "java/lang/Object", name := "<init>", desc := "()V" } : Jvm.MethodName)), (Jvm.Cond.classLink "BlueBag$CoastReader" (9 : Nat) "BlueBag$Coast"), (Jvm.Cond.methodLink "BlueBag$CoastReader" (11 : Nat) ({ cls := "BlueBag$Coast", name := "<init>", desc := "()V" } : Jvm.MethodName)), (Jvm.Cond.classLink "BlueBag$CoastReader" (18 : Nat) "BlueBag$Sky"), (Jvm.Cond.instantiable "BlueBag$Sky" (13 : Nat)), (Jvm.Cond.methodLink "BlueBag$CoastReader" (20 : Nat) ({ cls := "BlueBag$Sky", name := "<init>", desc := "(LBlueBag$Coast;)V" } : Jvm.MethodName)), (Jvm.Cond.instanceMethod ({ cls := "BlueBag$Sky", name := "<init>", desc := "(LBlueBag$Coast;)V" } : Jvm.MethodName)), (Jvm.Cond.methodLink "BlueBag$Sky" (3 : Nat) ({ cls := "java/lang/Object", name := "<init>", desc := "()V" } : Jvm.MethodName)), (Jvm.Cond.methodLink "BlueBag$Sky" (36 : Nat) ({ cls := "BlueBag$Sky", name := "begin", desc := "()V" } : Jvm.MethodName)), (Jvm.Cond.instanceMethod ({ cls := "BlueBag$Sky", name := "begin", desc := "()V" } : Jvm.MethodName)), (Jvm.Cond.selects "BlueBag$Sky" ({ cls := "BlueBag$Sky", name := "begin", desc := "()V" } : Jvm.MethodName) ({ cls := "BlueBag$Sky", name := "begin", desc := "()V" } : Jvm.MethodName)), (Jvm.Cond.fieldLink "BlueBag$Sky" (32 : Nat) "BlueBag$Sky" "coast" "LBlueBag$Coast;"), (Jvm.Cond.fieldLink "BlueBag$Sky" (9 : Nat) "BlueBag$Sky" "blue" "[I"), (Jvm.Cond.fieldLink "BlueBag$Sky" (15 : Nat) "BlueBag$Sky" "morning" "[I"), (Jvm.Cond.fieldLink "BlueBag$Sky" (18 : Nat) "BlueBag$Sky" "less" "[I"), (Jvm.Cond.fieldLink "BlueBag$Sky" (21 : Nat) "BlueBag$Sky" "spot" "[I"), (Jvm.Cond.fieldLink "BlueBag$Sky" (24 : Nat) "BlueBag$Sky" "skill" "[I"), (Jvm.Cond.fieldLink "BlueBag$Sky" (29 : Nat) "BlueBag$Sky" "values" "[I"), (Jvm.Cond.fieldLink "BlueBag$Sky" (39 : Nat) "BlueBag$Sky" "pegs" "I"), (Jvm.Cond.fieldLink "BlueBag$Sky" (43 : Nat) "BlueBag$Sky" "resting" "I"), (Jvm.Cond.fieldLink "BlueBag$Sky" (46 : Nat) "BlueBag$Sky" "knobs" "I"), (Jvm.Cond.fieldLinkNest "BlueBag" (140 : Nat) "BlueBag$Sky" "knobs" "I" "BlueBag")]
set_option maxRecDepth 100000 in
theorem sb_2 : isSub nd_2 ((tables_1_1).drop 83) = true := by decide +kernel
theorem im_2 {i : Nat} {w : Cond} (h : nd_2[i]? = some w) : w ∈ lw_tbl := tin_1 (List.mem_of_mem_drop (isSub_mem _ _ sb_2 w (List.mem_of_getElem? h)))
def nd_3 : List Cond := [(Jvm.Cond.fieldLink "BlueBag$Sky" (49 : Nat) "BlueBag$Sky" "martins" "I"), (Jvm.Cond.fieldLinkNest "BlueBag" (149 : Nat) "BlueBag$Sky" "martins" "I" "BlueBag"), (Jvm.Cond.fieldLink "BlueBag$Sky" (52 : Nat) "BlueBag$Sky" "day" "I"), (Jvm.Cond.fieldLink "BlueBag$Sky" (55 : Nat) "BlueBag$Sky" "overdone" "I"), (Jvm.Cond.laysFinal "BlueBag$Sky" "BlueBag$Sky" "coast" "LBlueBag$Coast;"), (Jvm.Cond.laysFinal "BlueBag$Sky" "BlueBag$Sky" "blue" "[I"), (Jvm.Cond.laysFinal "BlueBag$Sky" "BlueBag$Sky" "morning" "[I"), (Jvm.Cond.laysFinal "BlueBag$Sky" "BlueBag$Sky" "less" "[I"), (Jvm.Cond.laysFinal "BlueBag$Sky" "BlueBag$Sky" "spot" "[I"), (Jvm.Cond.laysFinal "BlueBag$Sky" "BlueBag$Sky" "skill" "[I"), (Jvm.Cond.laysFinal "BlueBag$Sky" "BlueBag$Sky" "values" "[I"), (Jvm.Cond.lays "BlueBag$Sky" "BlueBag$Sky" "pegs" "I"), (Jvm.Cond.lays "BlueBag$Sky" "BlueBag$Sky" "resting" "I"), (Jvm.Cond.lays "BlueBag$Sky" "BlueBag$Sky" "knobs" "I"), (Jvm.Cond.lays "BlueBag$Sky" "BlueBag$Sky" "martins" "I"), (Jvm.Cond.lays "BlueBag$Sky" "BlueBag$Sky" "day" "I"), (Jvm.Cond.lays "BlueBag$Sky" "BlueBag$Sky" "overdone" "I"), (Jvm.Cond.classLink "BlueBag$CoastReader" (27 : Nat) "BlueBag$Tokens"), (Jvm.Cond.instantiable "BlueBag$Tokens" (8 : Nat)), (Jvm.Cond.methodLink "BlueBag$CoastReader" (29 : Nat) ({ cls := "BlueBag$Tokens", name := "<init>", desc := "(LBlueBag$Tape;)V" } : Jvm.MethodName)), (Jvm.Cond.instanceMethod ({ cls := "BlueBag$Tokens", name := "<init>", desc := "(LBlueBag$Tape;)V" } : Jvm.MethodName)), (Jvm.Cond.methodLink "BlueBag$Tokens" (3 : Nat) ({ cls := "java/lang/Object", name := "<init>", desc := "()V" } : Jvm.MethodName)), (Jvm.Cond.fieldLink "BlueBag$Tokens" (9 : Nat) "BlueBag$Tokens" "tape" "LBlueBag$Tape;"), (Jvm.Cond.laysFinal "BlueBag$Tokens" "BlueBag$Tokens" "tape" "LBlueBag$Tape;"), (Jvm.Cond.lays "BlueBag$Tokens" "BlueBag$Tokens" "end" "I"), (Jvm.Cond.lays "BlueBag$Tokens" "BlueBag$Tokens" "kind" "I"), (Jvm.Cond.lays "BlueBag$Tokens" "BlueBag$Tokens" "start" "I"), (Jvm.Cond.lays "BlueBag$Tokens" "BlueBag$Tokens" "next" "I"), (Jvm.Cond.lays "BlueBag$Tokens" "BlueBag$Tokens" "number" "I")]
set_option maxRecDepth 100000 in
theorem sb_3 : isSub nd_3 ((tables_1_1).drop 176) = true := by decide +kernel
theorem im_3 {i : Nat} {w : Cond} (h : nd_3[i]? = some w) : w ∈ lw_tbl := tin_1 (List.mem_of_mem_drop (isSub_mem _ _ sb_3 w (List.mem_of_getElem? h)))
set_option maxRecDepth 100000 in
theorem cw_357 : (Jvm.Cond.code ({ cls := "BlueBag$RuleReader", name := "<init>", desc := "(LBlueBag$Tokens;LBlueBag$Rule;)V" } : Jvm.MethodName) prog_8_method_1_code (3 : Nat) (Option.none : Option Jvm.ClassFile.FieldType)) ∈ lw_tbl := tin_2 (List.mem_of_getElem? (i := 10) rfl)
set_option maxRecDepth 100000 in
theorem cw_397 : (Jvm.Cond.code ({ cls := "BlueBag$Memory", name := "<init>", desc := "(LBlueBag$Coast;)V" } : Jvm.MethodName) prog_6_method_1_code (2 : Nat) (Option.none : Option Jvm.ClassFile.FieldType)) ∈ lw_tbl := tin_2 (List.mem_of_getElem? (i := 50) rfl)
set_option maxRecDepth 100000 in
theorem cw_403 : (Jvm.Cond.code ({ cls := "BlueBag$Acts", name := "<init>", desc := "()V" } : Jvm.MethodName) prog_2_method_1_code (1 : Nat) (Option.none : Option Jvm.ClassFile.FieldType)) ∈ lw_tbl := tin_2 (List.mem_of_getElem? (i := 56) rfl)
set_option maxRecDepth 100000 in
theorem cw_446 : (Jvm.Cond.code ({ cls := "BlueBag$Sending", name := "<init>", desc := "(LBlueBag$Sky;)V" } : Jvm.MethodName) prog_9_method_1_code (2 : Nat) (Option.none : Option Jvm.ClassFile.FieldType)) ∈ lw_tbl := tin_2 (List.mem_of_getElem? (i := 99) rfl)
set_option maxRecDepth 100000 in
theorem cw_472 : (Jvm.Cond.code ({ cls := "BlueBag$Dice", name := "<init>", desc := "()V" } : Jvm.MethodName) prog_5_method_1_code (1 : Nat) (Option.none : Option Jvm.ClassFile.FieldType)) ∈ lw_tbl := tin_2 (List.mem_of_getElem? (i := 125) rfl)
set_option maxRecDepth 100000 in
theorem cw_567 : (Jvm.Cond.code ({ cls := "BlueBag$Sky", name := "passDay", desc := "()V" } : Jvm.MethodName) prog_10_method_17_code (2 : Nat) (Option.none : Option Jvm.ClassFile.FieldType)) ∈ lw_tbl := tin_2 (List.mem_of_getElem? (i := 220) rfl)
set_option maxRecDepth 100000 in
theorem cw_571 : (Jvm.Cond.code ({ cls := "BlueBag$Sky", name := "isResting", desc := "(I)Z" } : Jvm.MethodName) prog_10_method_10_code (2 : Nat) (Option.some Jvm.ClassFile.FieldType.boolean)) ∈ lw_tbl := tin_2 (List.mem_of_getElem? (i := 224) rfl)
set_option maxRecDepth 100000 in
theorem cw_575 : (Jvm.Cond.code ({ cls := "BlueBag$Sky", name := "swish", desc := "(II)V" } : Jvm.MethodName) prog_10_method_22_code (7 : Nat) (Option.none : Option Jvm.ClassFile.FieldType)) ∈ lw_tbl := tin_2 (List.mem_of_getElem? (i := 228) rfl)
set_option maxRecDepth 100000 in
theorem cw_579 : (Jvm.Cond.code ({ cls := "BlueBag$Sky", name := "dyeOf", desc := "(II)I" } : Jvm.MethodName) prog_10_method_24_code (3 : Nat) (Option.some Jvm.ClassFile.FieldType.int)) ∈ lw_tbl := tin_2 (List.mem_of_getElem? (i := 232) rfl)
set_option maxRecDepth 100000 in
theorem cw_583 : (Jvm.Cond.code ({ cls := "BlueBag$Rule", name := "isTold", desc := "()Z" } : Jvm.MethodName) prog_7_method_3_code (1 : Nat) (Option.some Jvm.ClassFile.FieldType.boolean)) ∈ lw_tbl := tin_2 (List.mem_of_getElem? (i := 236) rfl)
def nd_4 : List Cond := [(Jvm.Cond.lays "BlueBag$Tokens" "BlueBag$Tokens" "fault" "I"), (Jvm.Cond.lays "BlueBag$Tokens" "BlueBag$Tokens" "faultPlace" "I"), (Jvm.Cond.classLink "BlueBag$CoastReader" (36 : Nat) "BlueBag$RuleReader"), (Jvm.Cond.instantiable "BlueBag$RuleReader" (3 : Nat)), (Jvm.Cond.methodLink "BlueBag$CoastReader" (42 : Nat) ({ cls := "BlueBag$RuleReader", name := "<init>", desc := "(LBlueBag$Tokens;LBlueBag$Rule;)V" } : Jvm.MethodName)), (Jvm.Cond.instanceMethod ({ cls := "BlueBag$RuleReader", name := "<init>", desc := "(LBlueBag$Tokens;LBlueBag$Rule;)V" } : Jvm.MethodName)), (Jvm.Cond.methodLink "BlueBag$RuleReader" (3 : Nat) ({ cls := "java/lang/Object", name := "<init>", desc := "()V" } : Jvm.MethodName)), (Jvm.Cond.fieldLink "BlueBag$RuleReader" (9 : Nat) "BlueBag$RuleReader" "tokens" "LBlueBag$Tokens;"), (Jvm.Cond.fieldLink "BlueBag$RuleReader" (15 : Nat) "BlueBag$RuleReader" "rule" "LBlueBag$Rule;"), (Jvm.Cond.laysFinal "BlueBag$RuleReader" "BlueBag$RuleReader" "tokens" "LBlueBag$Tokens;"), (Jvm.Cond.lays "BlueBag$RuleReader" "BlueBag$RuleReader" "rule" "LBlueBag$Rule;"), (Jvm.Cond.lays "BlueBag$RuleReader" "BlueBag$RuleReader" "isOfDyes" "Z"), (Jvm.Cond.fieldLink "BlueBag$CoastReader" (32 : Nat) "BlueBag$CoastReader" "tokens" "LBlueBag$Tokens;"), (Jvm.Cond.fieldLink "BlueBag$CoastReader" (45 : Nat) "BlueBag$CoastReader" "rules" "LBlueBag$RuleReader;"), (Jvm.Cond.fieldLink "BlueBag$CoastReader" (12 : Nat) "BlueBag$CoastReader" "draft" "LBlueBag$Coast;"), (Jvm.Cond.fieldLink "BlueBag$CoastReader" (23 : Nat) "BlueBag$CoastReader" "draftSky" "LBlueBag$Sky;"), (Jvm.Cond.laysFinal "BlueBag$CoastReader" "BlueBag$CoastReader" "tokens" "LBlueBag$Tokens;"), (Jvm.Cond.laysFinal "BlueBag$CoastReader" "BlueBag$CoastReader" "rules" "LBlueBag$RuleReader;"), (Jvm.Cond.laysFinal "BlueBag$CoastReader" "BlueBag$CoastReader" "draft" "LBlueBag$Coast;"), (Jvm.Cond.laysFinal "BlueBag$CoastReader" "BlueBag$CoastReader" "draftSky" "LBlueBag$Sky;"), (Jvm.Cond.lays "BlueBag$CoastReader" "BlueBag$CoastReader" "told" "I"), (Jvm.Cond.lays "BlueBag$CoastReader" "BlueBag$CoastReader" "blues" "I"), (Jvm.Cond.lays "BlueBag$CoastReader" "BlueBag$CoastReader" "isCellTold" "Z"), (Jvm.Cond.classLink "BlueBag" (32 : Nat) "BlueBag$Memory"), (Jvm.Cond.instantiable "BlueBag$Memory" (7 : Nat)), (Jvm.Cond.methodLink "BlueBag" (34 : Nat) ({ cls := "BlueBag$Memory", name := "<init>", desc := "(LBlueBag$Coast;)V" } : Jvm.MethodName)), (Jvm.Cond.instanceMethod ({ cls := "BlueBag$Memory", name := "<init>", desc := "(LBlueBag$Coast;)V" } : Jvm.MethodName)), (Jvm.Cond.methodLink "BlueBag$Memory" (3 : Nat) ({ cls := "java/lang/Object", name := "<init>", desc := "()V" } : Jvm.MethodName)), (Jvm.Cond.classLink "BlueBag$Memory" (9 : Nat) "BlueBag$Acts"), (Jvm.Cond.instantiable "BlueBag$Acts" (2 : Nat)), (Jvm.Cond.methodLinkNest "BlueBag$Memory" (11 : Nat) ({ cls := "BlueBag$Acts", name := "<init>", desc := "()V" } : Jvm.MethodName) "BlueBag"), (Jvm.Cond.instanceMethod ({ cls := "BlueBag$Acts", name := "<init>", desc := "()V" } : Jvm.MethodName)), (Jvm.Cond.methodLink "BlueBag$Acts" (3 : Nat) ({ cls := "java/lang/Object", name := "<init>", desc := "()V" } : Jvm.MethodName)), (Jvm.Cond.fieldLink "BlueBag$Acts" (11 : Nat) "BlueBag$Acts" "rows" "[I"), (Jvm.Cond.laysFinal "BlueBag$Acts" "BlueBag$Acts" "rows" "[I"), (Jvm.Cond.lays "BlueBag$Acts" "BlueBag$Acts" "kept" "I"), (Jvm.Cond.classLink "BlueBag$Memory" (31 : Nat) "BlueBag$Sky"), (Jvm.Cond.methodLink "BlueBag$Memory" (33 : Nat) ({ cls := "BlueBag$Sky", name := "<init>", desc := "(LBlueBag$Coast;)V" } : Jvm.MethodName)), (Jvm.Cond.fieldLink "BlueBag$Memory" (36 : Nat) "BlueBag$Memory" "sky" "LBlueBag$Sky;"), (Jvm.Cond.fieldLinkNest "BlueBag" (53 : Nat) "BlueBag$Memory" "sky" "LBlueBag$Sky;" "BlueBag"), (Jvm.Cond.fieldLink "BlueBag$Memory" (12 : Nat) "BlueBag$Memory" "acts" "LBlueBag$Acts;"), (Jvm.Cond.fieldLink "BlueBag$Memory" (18 : Nat) "BlueBag$Memory" "seenCells" "[I"), (Jvm.Cond.fieldLink "BlueBag$Memory" (22 : Nat) "BlueBag$Memory" "seenDays" "[I"), (Jvm.Cond.fieldLink "BlueBag$Memory" (25 : Nat) "BlueBag$Memory" "seenBlues" "[I"), (Jvm.Cond.fieldLink "BlueBag$Memory" (28 : Nat) "BlueBag$Memory" "status" "[I"), (Jvm.Cond.laysFinal "BlueBag$Memory" "BlueBag$Memory" "sky" "LBlueBag$Sky;"), (Jvm.Cond.laysFinal "BlueBag$Memory" "BlueBag$Memory" "acts" "LBlueBag$Acts;"), (Jvm.Cond.laysFinal "BlueBag$Memory" "BlueBag$Memory" "seenCells" "[I"), (Jvm.Cond.laysFinal "BlueBag$Memory" "BlueBag$Memory" "seenDays" "[I"), (Jvm.Cond.laysFinal "BlueBag$Memory" "BlueBag$Memory" "seenBlues" "[I"), (Jvm.Cond.laysFinal "BlueBag$Memory" "BlueBag$Memory" "status" "[I"), (Jvm.Cond.lays "BlueBag$Memory" "BlueBag$Memory" "seen" "I"), (Jvm.Cond.classLink "BlueBag" (44 : Nat) "BlueBag$Sky"), (Jvm.Cond.methodLink "BlueBag" (46 : Nat) ({ cls := "BlueBag$Sky", name := "<init>", desc := "(LBlueBag$Coast;)V" } : Jvm.MethodName)), (Jvm.Cond.classLink "BlueBag" (51 : Nat) "BlueBag$Sending"), (Jvm.Cond.instantiable "BlueBag$Sending" (6 : Nat)), (Jvm.Cond.methodLink "BlueBag" (56 : Nat) ({ cls := "BlueBag$Sending", name := "<init>", desc := "(LBlueBag$Sky;)V" } : Jvm.MethodName)), (Jvm.Cond.instanceMethod ({ cls := "BlueBag$Sending", name := "<init>", desc := "(LBlueBag$Sky;)V" } : Jvm.MethodName)), (Jvm.Cond.methodLink "BlueBag$Sending" (3 : Nat) ({ cls := "java/lang/Object", name := "<init>", desc := "()V" } : Jvm.MethodName)), (Jvm.Cond.fieldLink "BlueBag$Sending" (9 : Nat) "BlueBag$Sending" "goals" "[I")]
set_option maxRecDepth 100000 in
theorem sb_4 : isSub nd_4 ((tables_1_2).drop 1) = true := by decide +kernel
theorem im_4 {i : Nat} {w : Cond} (h : nd_4[i]? = some w) : w ∈ lw_tbl := tin_2 (List.mem_of_mem_drop (isSub_mem _ _ sb_4 w (List.mem_of_getElem? h)))
def nd_5 : List Cond := [(Jvm.Cond.fieldLink "BlueBag$Sending" (15 : Nat) "BlueBag$Sending" "row" "[I"), (Jvm.Cond.fieldLink "BlueBag$Sending" (18 : Nat) "BlueBag$Sending" "bestRow" "[I"), (Jvm.Cond.fieldLink "BlueBag$Sending" (21 : Nat) "BlueBag$Sending" "sky" "LBlueBag$Sky;"), (Jvm.Cond.laysFinal "BlueBag$Sending" "BlueBag$Sending" "goals" "[I"), (Jvm.Cond.laysFinal "BlueBag$Sending" "BlueBag$Sending" "row" "[I"), (Jvm.Cond.laysFinal "BlueBag$Sending" "BlueBag$Sending" "bestRow" "[I"), (Jvm.Cond.laysFinal "BlueBag$Sending" "BlueBag$Sending" "sky" "LBlueBag$Sky;"), (Jvm.Cond.lays "BlueBag$Sending" "BlueBag$Sending" "many" "I"), (Jvm.Cond.lays "BlueBag$Sending" "BlueBag$Sending" "least" "I"), (Jvm.Cond.classLink "BlueBag" (63 : Nat) "BlueBag$Dice"), (Jvm.Cond.instantiable "BlueBag$Dice" (1 : Nat)), (Jvm.Cond.methodLinkNest "BlueBag" (65 : Nat) ({ cls := "BlueBag$Dice", name := "<init>", desc := "()V" } : Jvm.MethodName) "BlueBag"), (Jvm.Cond.instanceMethod ({ cls := "BlueBag$Dice", name := "<init>", desc := "()V" } : Jvm.MethodName)), (Jvm.Cond.methodLink "BlueBag$Dice" (1 : Nat) ({ cls := "java/lang/Object", name := "<init>", desc := "()V" } : Jvm.MethodName)), (Jvm.Cond.fieldLink "BlueBag$Dice" (7 : Nat) "BlueBag$Dice" "seed" "I"), (Jvm.Cond.fieldLinkNest "BlueBag" (334 : Nat) "BlueBag$Dice" "seed" "I" "BlueBag"), (Jvm.Cond.lays "BlueBag$Dice" "BlueBag$Dice" "seed" "I"), (Jvm.Cond.fieldLink "BlueBag" (10 : Nat) "BlueBag" "tape" "LBlueBag$Tape;"), (Jvm.Cond.fieldLink "BlueBag" (19 : Nat) "BlueBag" "coast" "LBlueBag$Coast;"), (Jvm.Cond.fieldLink "BlueBag" (28 : Nat) "BlueBag" "reader" "LBlueBag$CoastReader;"), (Jvm.Cond.fieldLink "BlueBag" (37 : Nat) "BlueBag" "present" "LBlueBag$Memory;"), (Jvm.Cond.fieldLink "BlueBag" (41 : Nat) "BlueBag" "pictured" "LBlueBag$Memory;"), (Jvm.Cond.fieldLink "BlueBag" (47 : Nat) "BlueBag" "trial" "LBlueBag$Sky;"), (Jvm.Cond.fieldLink "BlueBag" (59 : Nat) "BlueBag" "sending" "LBlueBag$Sending;"), (Jvm.Cond.fieldLink "BlueBag" (66 : Nat) "BlueBag" "dice" "LBlueBag$Dice;"), (Jvm.Cond.fieldLink "BlueBag" (70 : Nat) "BlueBag" "lowBlues" "[J"), (Jvm.Cond.fieldLink "BlueBag" (74 : Nat) "BlueBag" "highBlues" "[J"), (Jvm.Cond.fieldLink "BlueBag" (77 : Nat) "BlueBag" "gains" "[I"), (Jvm.Cond.fieldLink "BlueBag" (81 : Nat) "BlueBag" "faultPlace" "I"), (Jvm.Cond.laysFinal "BlueBag" "BlueBag" "tape" "LBlueBag$Tape;"), (Jvm.Cond.laysFinal "BlueBag" "BlueBag" "coast" "LBlueBag$Coast;"), (Jvm.Cond.laysFinal "BlueBag" "BlueBag" "reader" "LBlueBag$CoastReader;"), (Jvm.Cond.laysFinal "BlueBag" "BlueBag" "present" "LBlueBag$Memory;"), (Jvm.Cond.laysFinal "BlueBag" "BlueBag" "pictured" "LBlueBag$Memory;"), (Jvm.Cond.laysFinal "BlueBag" "BlueBag" "trial" "LBlueBag$Sky;"), (Jvm.Cond.laysFinal "BlueBag" "BlueBag" "sending" "LBlueBag$Sending;"), (Jvm.Cond.laysFinal "BlueBag" "BlueBag" "dice" "LBlueBag$Dice;"), (Jvm.Cond.laysFinal "BlueBag" "BlueBag" "lowBlues" "[J"), (Jvm.Cond.laysFinal "BlueBag" "BlueBag" "highBlues" "[J"), (Jvm.Cond.laysFinal "BlueBag" "BlueBag" "gains" "[I"), (Jvm.Cond.lays "BlueBag" "BlueBag" "isPictured" "Z"), (Jvm.Cond.lays "BlueBag" "BlueBag" "faultPlace" "I"), (Jvm.Cond.arrayClass Jvm.ClassFile.FieldType.long), (Jvm.Cond.static ({ cls := "java/lang/System", name := "arraycopy", desc := "(Ljava/lang/Object;ILjava/lang/Object;II)V" } : Jvm.MethodName)), (Jvm.Cond.native ({ cls := "java/lang/System", name := "arraycopy", desc := "(Ljava/lang/Object;ILjava/lang/Object;II)V" } : Jvm.MethodName)), (Jvm.Cond.methodLink "BlueBag$Sky" (58 : Nat) ({ cls := "java/lang/System", name := "arraycopy", desc := "(Ljava/lang/Object;ILjava/lang/Object;II)V" } : Jvm.MethodName)), (Jvm.Cond.methodLink "BlueBag" (221 : Nat) ({ cls := "BlueBag$Sky", name := "passDay", desc := "()V" } : Jvm.MethodName)), (Jvm.Cond.instanceMethod ({ cls := "BlueBag$Sky", name := "passDay", desc := "()V" } : Jvm.MethodName)), (Jvm.Cond.selects "BlueBag$Sky" ({ cls := "BlueBag$Sky", name := "passDay", desc := "()V" } : Jvm.MethodName) ({ cls := "BlueBag$Sky", name := "passDay", desc := "()V" } : Jvm.MethodName)), (Jvm.Cond.methodLink "BlueBag$Sky" (79 : Nat) ({ cls := "BlueBag$Sky", name := "isResting", desc := "(I)Z" } : Jvm.MethodName)), (Jvm.Cond.instanceMethod ({ cls := "BlueBag$Sky", name := "isResting", desc := "(I)Z" } : Jvm.MethodName)), (Jvm.Cond.selects "BlueBag$Sky" ({ cls := "BlueBag$Sky", name := "isResting", desc := "(I)Z" } : Jvm.MethodName) ({ cls := "BlueBag$Sky", name := "isResting", desc := "(I)Z" } : Jvm.MethodName)), (Jvm.Cond.methodLink "BlueBag$Sky" (82 : Nat) ({ cls := "BlueBag$Sky", name := "swish", desc := "(II)V" } : Jvm.MethodName)), (Jvm.Cond.instanceMethod ({ cls := "BlueBag$Sky", name := "swish", desc := "(II)V" } : Jvm.MethodName)), (Jvm.Cond.selects "BlueBag$Sky" ({ cls := "BlueBag$Sky", name := "swish", desc := "(II)V" } : Jvm.MethodName) ({ cls := "BlueBag$Sky", name := "swish", desc := "(II)V" } : Jvm.MethodName)), (Jvm.Cond.methodLink "BlueBag$Sky" (129 : Nat) ({ cls := "BlueBag$Sky", name := "dyeOf", desc := "(II)I" } : Jvm.MethodName)), (Jvm.Cond.instanceMethod ({ cls := "BlueBag$Sky", name := "dyeOf", desc := "(II)I" } : Jvm.MethodName)), (Jvm.Cond.selects "BlueBag$Sky" ({ cls := "BlueBag$Sky", name := "dyeOf", desc := "(II)I" } : Jvm.MethodName) ({ cls := "BlueBag$Sky", name := "dyeOf", desc := "(II)I" } : Jvm.MethodName)), (Jvm.Cond.methodLink "BlueBag$Sky" (114 : Nat) ({ cls := "BlueBag$Rule", name := "isTold", desc := "()Z" } : Jvm.MethodName)), (Jvm.Cond.instanceMethod ({ cls := "BlueBag$Rule", name := "isTold", desc := "()Z" } : Jvm.MethodName))]
set_option maxRecDepth 100000 in
theorem sb_5 : isSub nd_5 ((tables_1_2).drop 102) = true := by decide +kernel
theorem im_5 {i : Nat} {w : Cond} (h : nd_5[i]? = some w) : w ∈ lw_tbl := tin_2 (List.mem_of_mem_drop (isSub_mem _ _ sb_5 w (List.mem_of_getElem? h)))
def nd_6 : List Cond := [(Jvm.Cond.selects "BlueBag$Rule" ({ cls := "BlueBag$Rule", name := "isTold", desc := "()Z" } : Jvm.MethodName) ({ cls := "BlueBag$Rule", name := "isTold", desc := "()Z" } : Jvm.MethodName)), (Jvm.Cond.methodLink "BlueBag$Sky" (157 : Nat) ({ cls := "BlueBag$Sky", name := "skillOf", desc := "(I)I" } : Jvm.MethodName)), (Jvm.Cond.instanceMethod ({ cls := "BlueBag$Sky", name := "skillOf", desc := "(I)I" } : Jvm.MethodName)), (Jvm.Cond.selects "BlueBag$Sky" ({ cls := "BlueBag$Sky", name := "skillOf", desc := "(I)I" } : Jvm.MethodName) ({ cls := "BlueBag$Sky", name := "skillOf", desc := "(I)I" } : Jvm.MethodName))]
set_option maxRecDepth 100000 in
theorem sb_6 : isSub nd_6 ((tables_1_2).drop 235) = true := by decide +kernel
theorem im_6 {i : Nat} {w : Cond} (h : nd_6[i]? = some w) : w ∈ lw_tbl := tin_2 (List.mem_of_mem_drop (isSub_mem _ _ sb_6 w (List.mem_of_getElem? h)))
set_option maxRecDepth 100000 in
theorem cw_587 : (Jvm.Cond.code ({ cls := "BlueBag$Sky", name := "skillOf", desc := "(I)I" } : Jvm.MethodName) prog_10_method_8_code (2 : Nat) (Option.some Jvm.ClassFile.FieldType.int)) ∈ lw_tbl := tin_3 (List.mem_of_getElem? (i := 0) rfl)
set_option maxRecDepth 100000 in
theorem cw_591 : (Jvm.Cond.code ({ cls := "BlueBag$Sky", name := "spotOf", desc := "(I)I" } : Jvm.MethodName) prog_10_method_7_code (2 : Nat) (Option.some Jvm.ClassFile.FieldType.int)) ∈ lw_tbl := tin_3 (List.mem_of_getElem? (i := 4) rfl)
set_option maxRecDepth 100000 in
theorem cw_595 : (Jvm.Cond.code ({ cls := "BlueBag$Sky", name := "setValues", desc := "(I)V" } : Jvm.MethodName) prog_10_method_25_code (5 : Nat) (Option.none : Option Jvm.ClassFile.FieldType)) ∈ lw_tbl := tin_3 (List.mem_of_getElem? (i := 8) rfl)
set_option maxRecDepth 100000 in
theorem cw_599 : (Jvm.Cond.code ({ cls := "BlueBag$Coast", name := "besideBits", desc := "(I)I" } : Jvm.MethodName) prog_3_method_10_code (2 : Nat) (Option.some Jvm.ClassFile.FieldType.int)) ∈ lw_tbl := tin_3 (List.mem_of_getElem? (i := 12) rfl)
set_option maxRecDepth 100000 in
theorem cw_603 : (Jvm.Cond.code ({ cls := "BlueBag$Sky", name := "blueOf", desc := "(I)I" } : Jvm.MethodName) prog_10_method_6_code (2 : Nat) (Option.some Jvm.ClassFile.FieldType.int)) ∈ lw_tbl := tin_3 (List.mem_of_getElem? (i := 16) rfl)
set_option maxRecDepth 100000 in
theorem cw_607 : (Jvm.Cond.code ({ cls := "BlueBag$Coast", name := "rowOf", desc := "(I)I" } : Jvm.MethodName) prog_3_method_7_code (2 : Nat) (Option.some Jvm.ClassFile.FieldType.int)) ∈ lw_tbl := tin_3 (List.mem_of_getElem? (i := 20) rfl)
set_option maxRecDepth 100000 in
theorem cw_611 : (Jvm.Cond.code ({ cls := "BlueBag$Rule", name := "worth", desc := "([I)I" } : Jvm.MethodName) prog_7_method_7_code (6 : Nat) (Option.some Jvm.ClassFile.FieldType.int)) ∈ lw_tbl := tin_3 (List.mem_of_getElem? (i := 24) rfl)
set_option maxRecDepth 100000 in
theorem cw_614 : (Jvm.Cond.code ({ cls := "BlueBag$Rule", name := "joined", desc := "(III)I" } : Jvm.MethodName) prog_7_method_8_code (3 : Nat) (Option.some Jvm.ClassFile.FieldType.int)) ∈ lw_tbl := tin_3 (List.mem_of_getElem? (i := 27) rfl)
set_option maxRecDepth 100000 in
theorem cw_617 : (Jvm.Cond.code ({ cls := "java/lang/Math", name := "min", desc := "(II)I" } : Jvm.MethodName) prog_22_method_69_code (2 : Nat) (Option.some Jvm.ClassFile.FieldType.int)) ∈ lw_tbl := tin_3 (List.mem_of_getElem? (i := 30) rfl)
set_option maxRecDepth 100000 in
theorem cw_620 : (Jvm.Cond.code ({ cls := "java/lang/Math", name := "max", desc := "(II)I" } : Jvm.MethodName) prog_22_method_65_code (2 : Nat) (Option.some Jvm.ClassFile.FieldType.int)) ∈ lw_tbl := tin_3 (List.mem_of_getElem? (i := 33) rfl)
set_option maxRecDepth 100000 in
theorem cw_624 : (Jvm.Cond.code ({ cls := "BlueBag$Sky", name := "addBlue", desc := "(II)V" } : Jvm.MethodName) prog_10_method_16_code (3 : Nat) (Option.none : Option Jvm.ClassFile.FieldType)) ∈ lw_tbl := tin_3 (List.mem_of_getElem? (i := 37) rfl)
set_option maxRecDepth 100000 in
theorem cw_628 : (Jvm.Cond.code ({ cls := "BlueBag$Sky", name := "isPegged", desc := "(I)Z" } : Jvm.MethodName) prog_10_method_9_code (2 : Nat) (Option.some Jvm.ClassFile.FieldType.boolean)) ∈ lw_tbl := tin_3 (List.mem_of_getElem? (i := 41) rfl)
set_option maxRecDepth 100000 in
theorem cw_632 : (Jvm.Cond.code ({ cls := "BlueBag$Coast", name := "isOld", desc := "(I)Z" } : Jvm.MethodName) prog_3_method_9_code (2 : Nat) (Option.some Jvm.ClassFile.FieldType.boolean)) ∈ lw_tbl := tin_3 (List.mem_of_getElem? (i := 45) rfl)
set_option maxRecDepth 100000 in
theorem cw_636 : (Jvm.Cond.code ({ cls := "BlueBag$Sky", name := "drip", desc := "(II)V" } : Jvm.MethodName) prog_10_method_23_code (5 : Nat) (Option.none : Option Jvm.ClassFile.FieldType)) ∈ lw_tbl := tin_3 (List.mem_of_getElem? (i := 49) rfl)
set_option maxRecDepth 100000 in
theorem cw_642 : (Jvm.Cond.code ({ cls := "BlueBag$Sky", name := "markOverdone", desc := "()V" } : Jvm.MethodName) prog_10_method_19_code (2 : Nat) (Option.none : Option Jvm.ClassFile.FieldType)) ∈ lw_tbl := tin_3 (List.mem_of_getElem? (i := 55) rfl)
set_option maxRecDepth 100000 in
theorem cw_645 : (Jvm.Cond.code ({ cls := "java/lang/Integer", name := "bitCount", desc := "(I)I" } : Jvm.MethodName) prog_20_method_49_code (1 : Nat) (Option.some Jvm.ClassFile.FieldType.int)) ∈ lw_tbl := tin_3 (List.mem_of_getElem? (i := 58) rfl)
set_option maxRecDepth 100000 in
theorem cw_652 : (Jvm.Cond.code ({ cls := "BlueBag$Sky", name := "fade", desc := "()V" } : Jvm.MethodName) prog_10_method_20_code (2 : Nat) (Option.none : Option Jvm.ClassFile.FieldType)) ∈ lw_tbl := tin_3 (List.mem_of_getElem? (i := 65) rfl)
set_option maxRecDepth 100000 in
theorem cw_656 : (Jvm.Cond.code ({ cls := "BlueBag$Sky", name := "fadeOf", desc := "(I)I" } : Jvm.MethodName) prog_10_method_21_code (2 : Nat) (Option.some Jvm.ClassFile.FieldType.int)) ∈ lw_tbl := tin_3 (List.mem_of_getElem? (i := 69) rfl)
set_option maxRecDepth 100000 in
theorem cw_664 : (Jvm.Cond.code ({ cls := "BlueBag$Sky", name := "addKnobs", desc := "(I)V" } : Jvm.MethodName) prog_10_method_15_code (2 : Nat) (Option.none : Option Jvm.ClassFile.FieldType)) ∈ lw_tbl := tin_3 (List.mem_of_getElem? (i := 77) rfl)
set_option maxRecDepth 100000 in
theorem cw_684 : (Jvm.Cond.code ({ cls := "BlueBag", name := "lookAhead", desc := "(I)V" } : Jvm.MethodName) prog_1_method_45_code (3 : Nat) (Option.none : Option Jvm.ClassFile.FieldType)) ∈ lw_tbl := tin_3 (List.mem_of_getElem? (i := 97) rfl)
set_option maxRecDepth 100000 in
theorem cw_688 : (Jvm.Cond.code ({ cls := "BlueBag$Sky", name := "copyFrom", desc := "(LBlueBag$Sky;)V" } : Jvm.MethodName) prog_10_method_3_code (2 : Nat) (Option.none : Option Jvm.ClassFile.FieldType)) ∈ lw_tbl := tin_3 (List.mem_of_getElem? (i := 101) rfl)
set_option maxRecDepth 100000 in
theorem cw_776 : (Jvm.Cond.code ({ cls := "java/lang/Throwable", name := "<init>", desc := "()V" } : Jvm.MethodName) prog_28_method_1_code (1 : Nat) (Option.none : Option Jvm.ClassFile.FieldType)) ∈ lw_tbl := tin_3 (List.mem_of_getElem? (i := 189) rfl)
set_option maxRecDepth 100000 in
theorem cw_786 : (Jvm.Cond.codeSync ({ cls := "java/lang/Throwable", name := "fillInStackTrace", desc := "()Ljava/lang/Throwable;" } : Jvm.MethodName) prog_28_method_18_code (1 : Nat) (Option.some (Jvm.ClassFile.FieldType.object "java/lang/Throwable"))) ∈ lw_tbl := tin_3 (List.mem_of_getElem? (i := 199) rfl)
set_option maxRecDepth 100000 in
theorem cw_794 : (Jvm.Cond.code ({ cls := "java/lang/IllegalArgumentException", name := "<init>", desc := "()V" } : Jvm.MethodName) prog_19_method_1_code (1 : Nat) (Option.none : Option Jvm.ClassFile.FieldType)) ∈ lw_tbl := tin_3 (List.mem_of_getElem? (i := 207) rfl)
set_option maxRecDepth 100000 in
theorem cw_797 : (Jvm.Cond.code ({ cls := "java/lang/RuntimeException", name := "<init>", desc := "()V" } : Jvm.MethodName) prog_23_method_1_code (1 : Nat) (Option.none : Option Jvm.ClassFile.FieldType)) ∈ lw_tbl := tin_3 (List.mem_of_getElem? (i := 210) rfl)
set_option maxRecDepth 100000 in
theorem cw_800 : (Jvm.Cond.code ({ cls := "java/lang/Exception", name := "<init>", desc := "()V" } : Jvm.MethodName) prog_18_method_1_code (1 : Nat) (Option.none : Option Jvm.ClassFile.FieldType)) ∈ lw_tbl := tin_3 (List.mem_of_getElem? (i := 213) rfl)
def nd_7 : List Cond := [(Jvm.Cond.methodLink "BlueBag$Sky" (132 : Nat) ({ cls := "BlueBag$Sky", name := "spotOf", desc := "(I)I" } : Jvm.MethodName)), (Jvm.Cond.instanceMethod ({ cls := "BlueBag$Sky", name := "spotOf", desc := "(I)I" } : Jvm.MethodName)), (Jvm.Cond.selects "BlueBag$Sky" ({ cls := "BlueBag$Sky", name := "spotOf", desc := "(I)I" } : Jvm.MethodName) ({ cls := "BlueBag$Sky", name := "spotOf", desc := "(I)I" } : Jvm.MethodName)), (Jvm.Cond.methodLink "BlueBag$Sky" (121 : Nat) ({ cls := "BlueBag$Sky", name := "setValues", desc := "(I)V" } : Jvm.MethodName)), (Jvm.Cond.instanceMethod ({ cls := "BlueBag$Sky", name := "setValues", desc := "(I)V" } : Jvm.MethodName)), (Jvm.Cond.methodLink "BlueBag$Sky" (144 : Nat) ({ cls := "BlueBag$Coast", name := "besideBits", desc := "(I)I" } : Jvm.MethodName)), (Jvm.Cond.instanceMethod ({ cls := "BlueBag$Coast", name := "besideBits", desc := "(I)I" } : Jvm.MethodName)), (Jvm.Cond.selects "BlueBag$Coast" ({ cls := "BlueBag$Coast", name := "besideBits", desc := "(I)I" } : Jvm.MethodName) ({ cls := "BlueBag$Coast", name := "besideBits", desc := "(I)I" } : Jvm.MethodName)), (Jvm.Cond.methodLink "BlueBag$Sky" (118 : Nat) ({ cls := "BlueBag$Sky", name := "blueOf", desc := "(I)I" } : Jvm.MethodName)), (Jvm.Cond.instanceMethod ({ cls := "BlueBag$Sky", name := "blueOf", desc := "(I)I" } : Jvm.MethodName)), (Jvm.Cond.selects "BlueBag$Sky" ({ cls := "BlueBag$Sky", name := "blueOf", desc := "(I)I" } : Jvm.MethodName) ({ cls := "BlueBag$Sky", name := "blueOf", desc := "(I)I" } : Jvm.MethodName)), (Jvm.Cond.methodLink "BlueBag$Sky" (160 : Nat) ({ cls := "BlueBag$Coast", name := "rowOf", desc := "(I)I" } : Jvm.MethodName)), (Jvm.Cond.instanceMethod ({ cls := "BlueBag$Coast", name := "rowOf", desc := "(I)I" } : Jvm.MethodName)), (Jvm.Cond.selects "BlueBag$Coast" ({ cls := "BlueBag$Coast", name := "rowOf", desc := "(I)I" } : Jvm.MethodName) ({ cls := "BlueBag$Coast", name := "rowOf", desc := "(I)I" } : Jvm.MethodName)), (Jvm.Cond.methodLink "BlueBag$Sky" (125 : Nat) ({ cls := "BlueBag$Rule", name := "worth", desc := "([I)I" } : Jvm.MethodName)), (Jvm.Cond.instanceMethod ({ cls := "BlueBag$Rule", name := "worth", desc := "([I)I" } : Jvm.MethodName)), (Jvm.Cond.selects "BlueBag$Rule" ({ cls := "BlueBag$Rule", name := "worth", desc := "([I)I" } : Jvm.MethodName) ({ cls := "BlueBag$Rule", name := "worth", desc := "([I)I" } : Jvm.MethodName)), (Jvm.Cond.methodLink "BlueBag$Rule" (32 : Nat) ({ cls := "BlueBag$Rule", name := "joined", desc := "(III)I" } : Jvm.MethodName)), (Jvm.Cond.static ({ cls := "BlueBag$Rule", name := "joined", desc := "(III)I" } : Jvm.MethodName)), (Jvm.Cond.methodLink "BlueBag$Sky" (64 : Nat) ({ cls := "java/lang/Math", name := "min", desc := "(II)I" } : Jvm.MethodName)), (Jvm.Cond.static ({ cls := "java/lang/Math", name := "min", desc := "(II)I" } : Jvm.MethodName)), (Jvm.Cond.methodLink "BlueBag$Sky" (92 : Nat) ({ cls := "java/lang/Math", name := "max", desc := "(II)I" } : Jvm.MethodName)), (Jvm.Cond.static ({ cls := "java/lang/Math", name := "max", desc := "(II)I" } : Jvm.MethodName)), (Jvm.Cond.methodLink "BlueBag$Sky" (135 : Nat) ({ cls := "BlueBag$Sky", name := "addBlue", desc := "(II)V" } : Jvm.MethodName)), (Jvm.Cond.instanceMethod ({ cls := "BlueBag$Sky", name := "addBlue", desc := "(II)V" } : Jvm.MethodName)), (Jvm.Cond.selects "BlueBag$Sky" ({ cls := "BlueBag$Sky", name := "addBlue", desc := "(II)V" } : Jvm.MethodName) ({ cls := "BlueBag$Sky", name := "addBlue", desc := "(II)V" } : Jvm.MethodName)), (Jvm.Cond.methodLink "BlueBag$Sky" (70 : Nat) ({ cls := "BlueBag$Sky", name := "isPegged", desc := "(I)Z" } : Jvm.MethodName)), (Jvm.Cond.instanceMethod ({ cls := "BlueBag$Sky", name := "isPegged", desc := "(I)Z" } : Jvm.MethodName)), (Jvm.Cond.selects "BlueBag$Sky" ({ cls := "BlueBag$Sky", name := "isPegged", desc := "(I)Z" } : Jvm.MethodName) ({ cls := "BlueBag$Sky", name := "isPegged", desc := "(I)Z" } : Jvm.MethodName)), (Jvm.Cond.methodLink "BlueBag$Sky" (138 : Nat) ({ cls := "BlueBag$Coast", name := "isOld", desc := "(I)Z" } : Jvm.MethodName)), (Jvm.Cond.instanceMethod ({ cls := "BlueBag$Coast", name := "isOld", desc := "(I)Z" } : Jvm.MethodName)), (Jvm.Cond.selects "BlueBag$Coast" ({ cls := "BlueBag$Coast", name := "isOld", desc := "(I)Z" } : Jvm.MethodName) ({ cls := "BlueBag$Coast", name := "isOld", desc := "(I)Z" } : Jvm.MethodName)), (Jvm.Cond.methodLink "BlueBag$Sky" (141 : Nat) ({ cls := "BlueBag$Sky", name := "drip", desc := "(II)V" } : Jvm.MethodName)), (Jvm.Cond.instanceMethod ({ cls := "BlueBag$Sky", name := "drip", desc := "(II)V" } : Jvm.MethodName)), (Jvm.Cond.methodLink "BlueBag$Sky" (147 : Nat) ({ cls := "BlueBag$Coast", name := "cells", desc := "()I" } : Jvm.MethodName)), (Jvm.Cond.methodLink "BlueBag$Sky" (151 : Nat) ({ cls := "BlueBag$Coast", name := "columnOf", desc := "(I)I" } : Jvm.MethodName)), (Jvm.Cond.methodLink "BlueBag$Sky" (86 : Nat) ({ cls := "BlueBag$Sky", name := "markOverdone", desc := "()V" } : Jvm.MethodName)), (Jvm.Cond.instanceMethod ({ cls := "BlueBag$Sky", name := "markOverdone", desc := "()V" } : Jvm.MethodName)), (Jvm.Cond.methodLink "BlueBag$Sky" (101 : Nat) ({ cls := "java/lang/Integer", name := "bitCount", desc := "(I)I" } : Jvm.MethodName)), (Jvm.Cond.static ({ cls := "java/lang/Integer", name := "bitCount", desc := "(I)I" } : Jvm.MethodName)), (Jvm.Cond.constant "java/lang/Integer" (265 : Nat) (1431655765 : Int32)), (Jvm.Cond.constant "java/lang/Integer" (266 : Nat) (858993459 : Int32)), (Jvm.Cond.constant "java/lang/Integer" (267 : Nat) (252645135 : Int32)), (Jvm.Cond.methodLink "BlueBag$Sky" (95 : Nat) ({ cls := "BlueBag$Sky", name := "fade", desc := "()V" } : Jvm.MethodName)), (Jvm.Cond.instanceMethod ({ cls := "BlueBag$Sky", name := "fade", desc := "()V" } : Jvm.MethodName)), (Jvm.Cond.methodLink "BlueBag$Sky" (107 : Nat) ({ cls := "BlueBag$Sky", name := "fadeOf", desc := "(I)I" } : Jvm.MethodName)), (Jvm.Cond.instanceMethod ({ cls := "BlueBag$Sky", name := "fadeOf", desc := "(I)I" } : Jvm.MethodName)), (Jvm.Cond.methodLink "BlueBag" (235 : Nat) ({ cls := "BlueBag$Sky", name := "addKnobs", desc := "(I)V" } : Jvm.MethodName)), (Jvm.Cond.instanceMethod ({ cls := "BlueBag$Sky", name := "addKnobs", desc := "(I)V" } : Jvm.MethodName)), (Jvm.Cond.selects "BlueBag$Sky" ({ cls := "BlueBag$Sky", name := "addKnobs", desc := "(I)V" } : Jvm.MethodName) ({ cls := "BlueBag$Sky", name := "addKnobs", desc := "(I)V" } : Jvm.MethodName)), (Jvm.Cond.methodLink "BlueBag" (252 : Nat) ({ cls := "BlueBag", name := "lookAhead", desc := "(I)V" } : Jvm.MethodName)), (Jvm.Cond.instanceMethod ({ cls := "BlueBag", name := "lookAhead", desc := "(I)V" } : Jvm.MethodName)), (Jvm.Cond.methodLink "BlueBag" (343 : Nat) ({ cls := "BlueBag$Sky", name := "copyFrom", desc := "(LBlueBag$Sky;)V" } : Jvm.MethodName)), (Jvm.Cond.instanceMethod ({ cls := "BlueBag$Sky", name := "copyFrom", desc := "(LBlueBag$Sky;)V" } : Jvm.MethodName)), (Jvm.Cond.selects "BlueBag$Sky" ({ cls := "BlueBag$Sky", name := "copyFrom", desc := "(LBlueBag$Sky;)V" } : Jvm.MethodName) ({ cls := "BlueBag$Sky", name := "copyFrom", desc := "(LBlueBag$Sky;)V" } : Jvm.MethodName)), (Jvm.Cond.classLink "BlueBag" (96 : Nat) "java/lang/IllegalArgumentException"), (Jvm.Cond.instantiable "java/lang/IllegalArgumentException" (6 : Nat)), (Jvm.Cond.castable "java/lang/IllegalArgumentException" "java/lang/IllegalArgumentException"), (Jvm.Cond.declares ({ cls := "java/lang/RuntimeException", name := "<init>", desc := "()V" } : Jvm.MethodName)), (Jvm.Cond.declares ({ cls := "java/lang/RuntimeException", name := "<init>", desc := "(Ljava/lang/String;)V" } : Jvm.MethodName))]
set_option maxRecDepth 100000 in
theorem sb_7 : isSub nd_7 ((tables_1_3).drop 1) = true := by decide +kernel
theorem im_7 {i : Nat} {w : Cond} (h : nd_7[i]? = some w) : w ∈ lw_tbl := tin_3 (List.mem_of_mem_drop (isSub_mem _ _ sb_7 w (List.mem_of_getElem? h)))
def nd_8 : List Cond := [(Jvm.Cond.declares ({ cls := "java/lang/Exception", name := "<init>", desc := "()V" } : Jvm.MethodName)), (Jvm.Cond.declares ({ cls := "java/lang/Exception", name := "<init>", desc := "(Ljava/lang/String;)V" } : Jvm.MethodName)), (Jvm.Cond.declares ({ cls := "java/lang/Throwable", name := "<init>", desc := "()V" } : Jvm.MethodName)), (Jvm.Cond.declares ({ cls := "java/lang/Throwable", name := "<init>", desc := "(Ljava/lang/String;)V" } : Jvm.MethodName)), (Jvm.Cond.selects "java/lang/IllegalArgumentException" ({ cls := "java/lang/Throwable", name := "fillInStackTrace", desc := "(I)Ljava/lang/Throwable;" } : Jvm.MethodName) ({ cls := "java/lang/Throwable", name := "fillInStackTrace", desc := "(I)Ljava/lang/Throwable;" } : Jvm.MethodName)), (Jvm.Cond.selects "java/lang/IllegalArgumentException" ({ cls := "java/lang/Throwable", name := "fillInStackTrace", desc := "()Ljava/lang/Throwable;" } : Jvm.MethodName) ({ cls := "java/lang/Throwable", name := "fillInStackTrace", desc := "()Ljava/lang/Throwable;" } : Jvm.MethodName)), (Jvm.Cond.lays "java/lang/IllegalArgumentException" "java/lang/Throwable" "cause" "Ljava/lang/Throwable;"), (Jvm.Cond.lays "java/lang/Throwable" "java/lang/Throwable" "cause" "Ljava/lang/Throwable;"), (Jvm.Cond.lays "java/lang/IllegalArgumentException" "java/lang/Throwable" "stackTrace" "[Ljava/lang/StackTraceElement;"), (Jvm.Cond.lays "java/lang/Throwable" "java/lang/Throwable" "stackTrace" "[Ljava/lang/StackTraceElement;"), (Jvm.Cond.lays "java/lang/IllegalArgumentException" "java/lang/Throwable" "suppressedExceptions" "Ljava/util/List;"), (Jvm.Cond.lays "java/lang/Throwable" "java/lang/Throwable" "suppressedExceptions" "Ljava/util/List;"), (Jvm.Cond.lays "java/lang/IllegalArgumentException" "java/lang/Throwable" "detailMessage" "Ljava/lang/String;"), (Jvm.Cond.lays "java/lang/Throwable" "java/lang/Throwable" "detailMessage" "Ljava/lang/String;"), (Jvm.Cond.lays "java/lang/IllegalArgumentException" "java/lang/Throwable" "backtrace" "Ljava/lang/Object;"), (Jvm.Cond.lays "java/lang/Throwable" "java/lang/Throwable" "backtrace" "Ljava/lang/Object;"), (Jvm.Cond.fieldLink "java/lang/Throwable" (198 : Nat) "java/lang/Throwable" "backtrace" "Ljava/lang/Object;"), (Jvm.Cond.superclass "java/lang/Throwable" "java/lang/Object"), (Jvm.Cond.instanceMethod ({ cls := "java/lang/Throwable", name := "<init>", desc := "()V" } : Jvm.MethodName)), (Jvm.Cond.methodLink "java/lang/Throwable" (1 : Nat) ({ cls := "java/lang/Object", name := "<init>", desc := "()V" } : Jvm.MethodName)), (Jvm.Cond.fieldLink "java/lang/Throwable" (13 : Nat) "java/lang/Throwable" "UNASSIGNED_STACK" "[Ljava/lang/StackTraceElement;"), (Jvm.Cond.laysStatic "java/lang/Throwable" "UNASSIGNED_STACK" "[Ljava/lang/StackTraceElement;"), (Jvm.Cond.fieldLink "java/lang/Throwable" (20 : Nat) "java/lang/Throwable" "SUPPRESSED_SENTINEL" "Ljava/util/List;"), (Jvm.Cond.laysStatic "java/lang/Throwable" "SUPPRESSED_SENTINEL" "Ljava/util/List;"), (Jvm.Cond.methodLink "java/lang/Throwable" (27 : Nat) ({ cls := "java/lang/Throwable", name := "fillInStackTrace", desc := "()Ljava/lang/Throwable;" } : Jvm.MethodName)), (Jvm.Cond.instanceMethod ({ cls := "java/lang/Throwable", name := "fillInStackTrace", desc := "()Ljava/lang/Throwable;" } : Jvm.MethodName)), (Jvm.Cond.sameMethod "java/lang/Throwable" "java/lang/Throwable" "fillInStackTrace" "()Ljava/lang/Throwable;"), (Jvm.Cond.selects "java/util/NoSuchElementException" ({ cls := "java/lang/Throwable", name := "fillInStackTrace", desc := "()Ljava/lang/Throwable;" } : Jvm.MethodName) ({ cls := "java/lang/Throwable", name := "fillInStackTrace", desc := "()Ljava/lang/Throwable;" } : Jvm.MethodName)), (Jvm.Cond.methodLink "java/lang/Throwable" (202 : Nat) ({ cls := "java/lang/Throwable", name := "fillInStackTrace", desc := "(I)Ljava/lang/Throwable;" } : Jvm.MethodName)), (Jvm.Cond.privateMethod ({ cls := "java/lang/Throwable", name := "fillInStackTrace", desc := "(I)Ljava/lang/Throwable;" } : Jvm.MethodName)), (Jvm.Cond.instanceMethod ({ cls := "java/lang/Throwable", name := "fillInStackTrace", desc := "(I)Ljava/lang/Throwable;" } : Jvm.MethodName)), (Jvm.Cond.instantiable "java/lang/Throwable" (6 : Nat)), (Jvm.Cond.native ({ cls := "java/lang/Throwable", name := "fillInStackTrace", desc := "(I)Ljava/lang/Throwable;" } : Jvm.MethodName)), (Jvm.Cond.methodLink "BlueBag" (98 : Nat) ({ cls := "java/lang/IllegalArgumentException", name := "<init>", desc := "()V" } : Jvm.MethodName)), (Jvm.Cond.instanceMethod ({ cls := "java/lang/IllegalArgumentException", name := "<init>", desc := "()V" } : Jvm.MethodName)), (Jvm.Cond.methodLink "java/lang/IllegalArgumentException" (1 : Nat) ({ cls := "java/lang/RuntimeException", name := "<init>", desc := "()V" } : Jvm.MethodName)), (Jvm.Cond.instanceMethod ({ cls := "java/lang/RuntimeException", name := "<init>", desc := "()V" } : Jvm.MethodName)), (Jvm.Cond.methodLink "java/lang/RuntimeException" (1 : Nat) ({ cls := "java/lang/Exception", name := "<init>", desc := "()V" } : Jvm.MethodName)), (Jvm.Cond.instanceMethod ({ cls := "java/lang/Exception", name := "<init>", desc := "()V" } : Jvm.MethodName)), (Jvm.Cond.methodLink "java/lang/Exception" (1 : Nat) ({ cls := "java/lang/Throwable", name := "<init>", desc := "()V" } : Jvm.MethodName)), (Jvm.Cond.fieldLink "java/lang/Throwable" (198 : Nat) "java/lang/Throwable" "backtrace" "Ljava/lang/Object;"), (Jvm.Cond.fieldLink "java/lang/Throwable" (7 : Nat) "java/lang/Throwable" "cause" "Ljava/lang/Throwable;"), (Jvm.Cond.fieldLink "java/lang/Throwable" (17 : Nat) "java/lang/Throwable" "stackTrace" "[Ljava/lang/StackTraceElement;"), (Jvm.Cond.fieldLink "java/lang/Throwable" (24 : Nat) "java/lang/Throwable" "suppressedExceptions" "Ljava/util/List;"), (Jvm.Cond.soleField "java/lang/Throwable" "backtrace"), (Jvm.Cond.soleField "java/lang/Throwable" "detailMessage"), (Jvm.Cond.soleField "java/lang/Throwable" "cause"), (Jvm.Cond.soleField "java/lang/Throwable" "stackTrace"), (Jvm.Cond.lays "java/lang/IllegalArgumentException" "java/lang/Throwable" "depth" "I"), (Jvm.Cond.soleField "java/lang/Throwable" "depth"), (Jvm.Cond.soleField "java/lang/Throwable" "suppressedExceptions"), (Jvm.Cond.superclass "java/lang/IllegalArgumentException" "java/lang/RuntimeException")]
set_option maxRecDepth 100000 in
theorem sb_8 : isSub nd_8 ((tables_1_3).drop 170) = true := by decide +kernel
theorem im_8 {i : Nat} {w : Cond} (h : nd_8[i]? = some w) : w ∈ lw_tbl := tin_3 (List.mem_of_mem_drop (isSub_mem _ _ sb_8 w (List.mem_of_getElem? h)))
set_option maxRecDepth 100000 in
theorem cw_853 : (Jvm.Cond.code ({ cls := "java/lang/String", name := "length", desc := "()I" } : Jvm.MethodName) prog_24_method_54_code (1 : Nat) (Option.some Jvm.ClassFile.FieldType.int)) ∈ lw_tbl := tin_4 (List.mem_of_getElem? (i := 26) rfl)
set_option maxRecDepth 100000 in
theorem cw_857 : (Jvm.Cond.code ({ cls := "java/lang/String", name := "coder", desc := "()B" } : Jvm.MethodName) prog_24_method_152_code (1 : Nat) (Option.some Jvm.ClassFile.FieldType.byte)) ∈ lw_tbl := tin_4 (List.mem_of_getElem? (i := 30) rfl)
set_option maxRecDepth 100000 in
theorem cw_863 : (Jvm.Cond.code ({ cls := "java/lang/String", name := "charAt", desc := "(I)C" } : Jvm.MethodName) prog_24_method_56_code (2 : Nat) (Option.some Jvm.ClassFile.FieldType.char)) ∈ lw_tbl := tin_4 (List.mem_of_getElem? (i := 36) rfl)
set_option maxRecDepth 100000 in
theorem cw_867 : (Jvm.Cond.code ({ cls := "java/lang/String", name := "isLatin1", desc := "()Z" } : Jvm.MethodName) prog_24_method_154_code (1 : Nat) (Option.some Jvm.ClassFile.FieldType.boolean)) ∈ lw_tbl := tin_4 (List.mem_of_getElem? (i := 40) rfl)
set_option maxRecDepth 100000 in
theorem cw_870 : (Jvm.Cond.code ({ cls := "java/lang/StringLatin1", name := "charAt", desc := "([BI)C" } : Jvm.MethodName) prog_25_method_2_code (2 : Nat) (Option.some Jvm.ClassFile.FieldType.char)) ∈ lw_tbl := tin_4 (List.mem_of_getElem? (i := 43) rfl)
set_option maxRecDepth 100000 in
theorem cw_873 : (Jvm.Cond.code ({ cls := "java/lang/String", name := "checkIndex", desc := "(II)V" } : Jvm.MethodName) prog_24_method_155_code (2 : Nat) (Option.none : Option Jvm.ClassFile.FieldType)) ∈ lw_tbl := tin_4 (List.mem_of_getElem? (i := 46) rfl)
set_option maxRecDepth 100000 in
theorem cw_878 : (Jvm.Cond.code ({ cls := "jdk/internal/util/Preconditions", name := "checkIndex", desc := "(IILjava/util/function/BiFunction;)I" } : Jvm.MethodName) prog_32_method_11_code (3 : Nat) (Option.some Jvm.ClassFile.FieldType.int)) ∈ lw_tbl := tin_4 (List.mem_of_getElem? (i := 51) rfl)
set_option maxRecDepth 100000 in
theorem cw_952 : (Jvm.Cond.code ({ cls := "BlueBag$Sky", name := "setSpot", desc := "(II)V" } : Jvm.MethodName) prog_10_method_11_code (3 : Nat) (Option.none : Option Jvm.ClassFile.FieldType)) ∈ lw_tbl := tin_4 (List.mem_of_getElem? (i := 125) rfl)
def nd_9 : List Cond := [(Jvm.Cond.instanceMethod ({ cls := "java/lang/String", name := "length", desc := "()I" } : Jvm.MethodName)), (Jvm.Cond.selects "java/lang/String" ({ cls := "java/lang/String", name := "length", desc := "()I" } : Jvm.MethodName) ({ cls := "java/lang/String", name := "length", desc := "()I" } : Jvm.MethodName)), (Jvm.Cond.methodLink "java/lang/String" (335 : Nat) ({ cls := "java/lang/String", name := "coder", desc := "()B" } : Jvm.MethodName)), (Jvm.Cond.instanceMethod ({ cls := "java/lang/String", name := "coder", desc := "()B" } : Jvm.MethodName)), (Jvm.Cond.selects "java/lang/String" ({ cls := "java/lang/String", name := "coder", desc := "()B" } : Jvm.MethodName) ({ cls := "java/lang/String", name := "coder", desc := "()B" } : Jvm.MethodName)), (Jvm.Cond.fieldLink "java/lang/String" (38 : Nat) "java/lang/String" "COMPACT_STRINGS" "Z"), (Jvm.Cond.instanceMethod ({ cls := "java/lang/String", name := "charAt", desc := "(I)C" } : Jvm.MethodName)), (Jvm.Cond.selects "java/lang/String" ({ cls := "java/lang/String", name := "charAt", desc := "(I)C" } : Jvm.MethodName) ({ cls := "java/lang/String", name := "charAt", desc := "(I)C" } : Jvm.MethodName)), (Jvm.Cond.methodLink "java/lang/String" (492 : Nat) ({ cls := "java/lang/String", name := "isLatin1", desc := "()Z" } : Jvm.MethodName)), (Jvm.Cond.instanceMethod ({ cls := "java/lang/String", name := "isLatin1", desc := "()Z" } : Jvm.MethodName)), (Jvm.Cond.selects "java/lang/String" ({ cls := "java/lang/String", name := "isLatin1", desc := "()Z" } : Jvm.MethodName) ({ cls := "java/lang/String", name := "isLatin1", desc := "()Z" } : Jvm.MethodName)), (Jvm.Cond.methodLink "java/lang/String" (495 : Nat) ({ cls := "java/lang/StringLatin1", name := "charAt", desc := "([BI)C" } : Jvm.MethodName)), (Jvm.Cond.static ({ cls := "java/lang/StringLatin1", name := "charAt", desc := "([BI)C" } : Jvm.MethodName)), (Jvm.Cond.methodLink "java/lang/StringLatin1" (9 : Nat) ({ cls := "java/lang/String", name := "checkIndex", desc := "(II)V" } : Jvm.MethodName)), (Jvm.Cond.static ({ cls := "java/lang/String", name := "checkIndex", desc := "(II)V" } : Jvm.MethodName)), (Jvm.Cond.fieldLink "java/lang/String" (1053 : Nat) "jdk/internal/util/Preconditions" "SIOOBE_FORMATTER" "Ljava/util/function/BiFunction;"), (Jvm.Cond.methodLink "java/lang/String" (1059 : Nat) ({ cls := "jdk/internal/util/Preconditions", name := "checkIndex", desc := "(IILjava/util/function/BiFunction;)I" } : Jvm.MethodName)), (Jvm.Cond.static ({ cls := "jdk/internal/util/Preconditions", name := "checkIndex", desc := "(IILjava/util/function/BiFunction;)I" } : Jvm.MethodName)), (Jvm.Cond.instanceMethod ({ cls := "BlueBag$Sky", name := "setSpot", desc := "(II)V" } : Jvm.MethodName)), (Jvm.Cond.selects "BlueBag$Sky" ({ cls := "BlueBag$Sky", name := "setSpot", desc := "(II)V" } : Jvm.MethodName) ({ cls := "BlueBag$Sky", name := "setSpot", desc := "(II)V" } : Jvm.MethodName))]
set_option maxRecDepth 100000 in
theorem sb_9 : isSub nd_9 ((tables_1_4).drop 24) = true := by decide +kernel
theorem im_9 {i : Nat} {w : Cond} (h : nd_9[i]? = some w) : w ∈ lw_tbl := tin_4 (List.mem_of_mem_drop (isSub_mem _ _ sb_9 w (List.mem_of_getElem? h)))
set_option maxRecDepth 100000 in
theorem cw_1082 : (Jvm.Cond.code ({ cls := "BlueBag$Sky", name := "allBlue", desc := "()I" } : Jvm.MethodName) prog_10_method_26_code (3 : Nat) (Option.some Jvm.ClassFile.FieldType.int)) ∈ lw_tbl := tin_5 (List.mem_of_getElem? (i := 15) rfl)
set_option maxRecDepth 100000 in
theorem cw_1098 : (Jvm.Cond.code ({ cls := "java/util/NoSuchElementException", name := "<init>", desc := "()V" } : Jvm.MethodName) prog_31_method_1_code (1 : Nat) (Option.none : Option Jvm.ClassFile.FieldType)) ∈ lw_tbl := tin_5 (List.mem_of_getElem? (i := 31) rfl)
set_option maxRecDepth 100000 in
theorem cw_1180 : (Jvm.Cond.code ({ cls := "BlueBag", name := "needWithin", desc := "(III)V" } : Jvm.MethodName) prog_1_method_43_code (4 : Nat) (Option.none : Option Jvm.ClassFile.FieldType)) ∈ lw_tbl := tin_5 (List.mem_of_getElem? (i := 113) rfl)
set_option maxRecDepth 100000 in
theorem cw_1191 : (Jvm.Cond.code ({ cls := "BlueBag", name := "needWhat", desc := "(II)V" } : Jvm.MethodName) prog_1_method_42_code (3 : Nat) (Option.none : Option Jvm.ClassFile.FieldType)) ∈ lw_tbl := tin_5 (List.mem_of_getElem? (i := 124) rfl)
def nd_10 : List Cond := [(Jvm.Cond.methodLink "BlueBag" (128 : Nat) ({ cls := "BlueBag$Coast", name := "cells", desc := "()I" } : Jvm.MethodName)), (Jvm.Cond.methodLink "BlueBag" (158 : Nat) ({ cls := "BlueBag$Sky", name := "allBlue", desc := "()I" } : Jvm.MethodName)), (Jvm.Cond.instanceMethod ({ cls := "BlueBag$Sky", name := "allBlue", desc := "()I" } : Jvm.MethodName)), (Jvm.Cond.selects "BlueBag$Sky" ({ cls := "BlueBag$Sky", name := "allBlue", desc := "()I" } : Jvm.MethodName) ({ cls := "BlueBag$Sky", name := "allBlue", desc := "()I" } : Jvm.MethodName)), (Jvm.Cond.classLink "BlueBag" (176 : Nat) "java/util/NoSuchElementException"), (Jvm.Cond.instantiable "java/util/NoSuchElementException" (6 : Nat)), (Jvm.Cond.castable "java/util/NoSuchElementException" "java/util/NoSuchElementException"), (Jvm.Cond.selects "java/util/NoSuchElementException" ({ cls := "java/lang/Throwable", name := "fillInStackTrace", desc := "(I)Ljava/lang/Throwable;" } : Jvm.MethodName) ({ cls := "java/lang/Throwable", name := "fillInStackTrace", desc := "(I)Ljava/lang/Throwable;" } : Jvm.MethodName)), (Jvm.Cond.lays "java/util/NoSuchElementException" "java/lang/Throwable" "cause" "Ljava/lang/Throwable;"), (Jvm.Cond.lays "java/util/NoSuchElementException" "java/lang/Throwable" "stackTrace" "[Ljava/lang/StackTraceElement;"), (Jvm.Cond.lays "java/util/NoSuchElementException" "java/lang/Throwable" "suppressedExceptions" "Ljava/util/List;"), (Jvm.Cond.lays "java/util/NoSuchElementException" "java/lang/Throwable" "detailMessage" "Ljava/lang/String;"), (Jvm.Cond.lays "java/util/NoSuchElementException" "java/lang/Throwable" "backtrace" "Ljava/lang/Object;"), (Jvm.Cond.methodLink "BlueBag" (178 : Nat) ({ cls := "java/util/NoSuchElementException", name := "<init>", desc := "()V" } : Jvm.MethodName)), (Jvm.Cond.instanceMethod ({ cls := "java/util/NoSuchElementException", name := "<init>", desc := "()V" } : Jvm.MethodName)), (Jvm.Cond.methodLink "java/util/NoSuchElementException" (1 : Nat) ({ cls := "java/lang/RuntimeException", name := "<init>", desc := "()V" } : Jvm.MethodName)), (Jvm.Cond.lays "java/util/NoSuchElementException" "java/lang/Throwable" "depth" "I"), (Jvm.Cond.superclass "java/util/NoSuchElementException" "java/lang/RuntimeException"), (Jvm.Cond.methodLink "BlueBag" (231 : Nat) ({ cls := "BlueBag$Sky", name := "setSpot", desc := "(II)V" } : Jvm.MethodName)), (Jvm.Cond.methodLink "BlueBag" (248 : Nat) ({ cls := "BlueBag", name := "needWithin", desc := "(III)V" } : Jvm.MethodName)), (Jvm.Cond.instanceMethod ({ cls := "BlueBag", name := "needWithin", desc := "(III)V" } : Jvm.MethodName)), (Jvm.Cond.methodLink "BlueBag" (255 : Nat) ({ cls := "BlueBag", name := "needWhat", desc := "(II)V" } : Jvm.MethodName)), (Jvm.Cond.instanceMethod ({ cls := "BlueBag", name := "needWhat", desc := "(II)V" } : Jvm.MethodName))]
set_option maxRecDepth 100000 in
theorem sb_10 : isSub nd_10 ((tables_1_5).drop 11) = true := by decide +kernel
theorem im_10 {i : Nat} {w : Cond} (h : nd_10[i]? = some w) : w ∈ lw_tbl := tin_5 (List.mem_of_mem_drop (isSub_mem _ _ sb_10 w (List.mem_of_getElem? h)))
set_option maxRecDepth 100000 in
theorem cw_1405 : (Jvm.Cond.code ({ cls := "BlueBag", name := "drawAhead", desc := "()V" } : Jvm.MethodName) prog_1_method_53_code (2 : Nat) (Option.none : Option Jvm.ClassFile.FieldType)) ∈ lw_tbl := tin_6 (List.mem_of_getElem? (i := 98) rfl)
set_option maxRecDepth 100000 in
theorem cw_1409 : (Jvm.Cond.code ({ cls := "BlueBag$Dice", name := "draw", desc := "(I)I" } : Jvm.MethodName) prog_5_method_2_code (3 : Nat) (Option.some Jvm.ClassFile.FieldType.int)) ∈ lw_tbl := tin_6 (List.mem_of_getElem? (i := 102) rfl)
set_option maxRecDepth 100000 in
theorem cw_1431 : (Jvm.Cond.code ({ cls := "BlueBagModel", name := "begin", desc := "(I)V" } : Jvm.MethodName) prog_14_method_2_code (3 : Nat) (Option.none : Option Jvm.ClassFile.FieldType)) ∈ lw_tbl := tin_6 (List.mem_of_getElem? (i := 124) rfl)
def nd_11 : List Cond := [(Jvm.Cond.methodLink "BlueBag" (337 : Nat) ({ cls := "BlueBag", name := "drawAhead", desc := "()V" } : Jvm.MethodName)), (Jvm.Cond.instanceMethod ({ cls := "BlueBag", name := "drawAhead", desc := "()V" } : Jvm.MethodName)), (Jvm.Cond.methodLink "BlueBag" (360 : Nat) ({ cls := "BlueBag$Dice", name := "draw", desc := "(I)I" } : Jvm.MethodName)), (Jvm.Cond.instanceMethod ({ cls := "BlueBag$Dice", name := "draw", desc := "(I)I" } : Jvm.MethodName)), (Jvm.Cond.selects "BlueBag$Dice" ({ cls := "BlueBag$Dice", name := "draw", desc := "(I)I" } : Jvm.MethodName) ({ cls := "BlueBag$Dice", name := "draw", desc := "(I)I" } : Jvm.MethodName)), (Jvm.Cond.constant "BlueBag$Dice" (13 : Nat) (1103515245 : Int32)), (Jvm.Cond.methodLink "BlueBag" (363 : Nat) ({ cls := "BlueBag$Sky", name := "addBlue", desc := "(II)V" } : Jvm.MethodName)), (Jvm.Cond.methodLink "BlueBagModel" (3 : Nat) ({ cls := "java/lang/Object", name := "<init>", desc := "()V" } : Jvm.MethodName)), (Jvm.Cond.classLink "BlueBagModel" (9 : Nat) "java/lang/String"), (Jvm.Cond.arrayOver (Jvm.ClassFile.FieldType.object "java/lang/String")), (Jvm.Cond.methodLink "BlueBagModel" (143 : Nat) ({ cls := "BlueBagModel", name := "begin", desc := "(I)V" } : Jvm.MethodName)), (Jvm.Cond.instanceMethod ({ cls := "BlueBagModel", name := "begin", desc := "(I)V" } : Jvm.MethodName)), (Jvm.Cond.fieldLink "BlueBagModel" (15 : Nat) "BlueBagModel" "women" "[Ljava/lang/String;"), (Jvm.Cond.fieldLink "BlueBagModel" (31 : Nat) "BlueBagModel" "ofDyes" "[Ljava/lang/String;"), (Jvm.Cond.fieldLink "BlueBagModel" (34 : Nat) "BlueBagModel" "ofFades" "[Ljava/lang/String;"), (Jvm.Cond.fieldLink "BlueBagModel" (37 : Nat) "BlueBagModel" "values" "[Ljava/lang/String;"), (Jvm.Cond.fieldLink "BlueBagModel" (40 : Nat) "BlueBagModel" "told" "[I"), (Jvm.Cond.fieldLink "BlueBagModel" (44 : Nat) "BlueBagModel" "blueTold" "[I"), (Jvm.Cond.fieldLink "BlueBagModel" (47 : Nat) "BlueBagModel" "aged" "[I"), (Jvm.Cond.fieldLink "BlueBagModel" (50 : Nat) "BlueBagModel" "skillTold" "[I"), (Jvm.Cond.fieldLink "BlueBagModel" (53 : Nat) "BlueBagModel" "cellTold" "[I"), (Jvm.Cond.fieldLink "BlueBagModel" (56 : Nat) "BlueBagModel" "signsDyes" "[I"), (Jvm.Cond.fieldLink "BlueBagModel" (59 : Nat) "BlueBagModel" "signsFades" "[I"), (Jvm.Cond.fieldLink "BlueBagModel" (62 : Nat) "BlueBagModel" "status" "[I"), (Jvm.Cond.fieldLink "BlueBagModel" (65 : Nat) "BlueBagModel" "skills" "[I"), (Jvm.Cond.fieldLink "BlueBagModel" (68 : Nat) "BlueBagModel" "tape" "[I"), (Jvm.Cond.fieldLink "BlueBagModel" (71 : Nat) "BlueBagModel" "faultPlace" "I"), (Jvm.Cond.fieldLink "BlueBagModel" (75 : Nat) "BlueBagModel" "blue" "[I"), (Jvm.Cond.fieldLink "BlueBagModel" (77 : Nat) "BlueBagModel" "where" "[I"), (Jvm.Cond.fieldLink "BlueBagModel" (80 : Nat) "BlueBagModel" "past" "[I"), (Jvm.Cond.fieldLink "BlueBagModel" (147 : Nat) "BlueBagModel" "knobs" "I"), (Jvm.Cond.fieldLink "BlueBagModel" (83 : Nat) "BlueBagModel" "asked" "[I"), (Jvm.Cond.fieldLink "BlueBagModel" (86 : Nat) "BlueBagModel" "stack" "[I"), (Jvm.Cond.fieldLink "BlueBagModel" (89 : Nat) "BlueBagModel" "fading" "[I"), (Jvm.Cond.fieldLink "BlueBagModel" (92 : Nat) "BlueBagModel" "rowThen" "[I"), (Jvm.Cond.fieldLink "BlueBagModel" (95 : Nat) "BlueBagModel" "blueThen" "[I"), (Jvm.Cond.fieldLink "BlueBagModel" (98 : Nat) "BlueBagModel" "leastBy" "[I"), (Jvm.Cond.fieldLink "BlueBagModel" (101 : Nat) "BlueBagModel" "goals" "[I"), (Jvm.Cond.fieldLink "BlueBagModel" (104 : Nat) "BlueBagModel" "seenCell" "[I"), (Jvm.Cond.fieldLink "BlueBagModel" (107 : Nat) "BlueBagModel" "seenIn" "[I"), (Jvm.Cond.fieldLink "BlueBagModel" (110 : Nat) "BlueBagModel" "seenBlue" "[I"), (Jvm.Cond.fieldLink "BlueBagModel" (113 : Nat) "BlueBagModel" "rowSeen" "[I"), (Jvm.Cond.fieldLink "BlueBagModel" (116 : Nat) "BlueBagModel" "fits" "[I"), (Jvm.Cond.fieldLink "BlueBagModel" (119 : Nat) "BlueBagModel" "bluesThen" "[I"), (Jvm.Cond.fieldLink "BlueBagModel" (122 : Nat) "BlueBagModel" "gains" "[I"), (Jvm.Cond.fieldLink "BlueBagModel" (125 : Nat) "BlueBagModel" "imageRow" "[I"), (Jvm.Cond.fieldLink "BlueBagModel" (128 : Nat) "BlueBagModel" "pastThen" "[I"), (Jvm.Cond.fieldLink "BlueBagModel" (131 : Nat) "BlueBagModel" "seenCellThen" "[I"), (Jvm.Cond.fieldLink "BlueBagModel" (134 : Nat) "BlueBagModel" "seenInThen" "[I"), (Jvm.Cond.fieldLink "BlueBagModel" (137 : Nat) "BlueBagModel" "seenBlueThen" "[I"), (Jvm.Cond.fieldLink "BlueBagModel" (140 : Nat) "BlueBagModel" "statusThen" "[I"), (Jvm.Cond.laysFinal "BlueBagModel" "BlueBagModel" "women" "[Ljava/lang/String;"), (Jvm.Cond.laysFinal "BlueBagModel" "BlueBagModel" "ofDyes" "[Ljava/lang/String;"), (Jvm.Cond.laysFinal "BlueBagModel" "BlueBagModel" "ofFades" "[Ljava/lang/String;"), (Jvm.Cond.lays "BlueBagModel" "BlueBagModel" "values" "[Ljava/lang/String;"), (Jvm.Cond.lays "BlueBagModel" "BlueBagModel" "code" "I"), (Jvm.Cond.laysFinal "BlueBagModel" "BlueBagModel" "told" "[I"), (Jvm.Cond.laysFinal "BlueBagModel" "BlueBagModel" "blueTold" "[I"), (Jvm.Cond.laysFinal "BlueBagModel" "BlueBagModel" "aged" "[I"), (Jvm.Cond.laysFinal "BlueBagModel" "BlueBagModel" "skillTold" "[I")]
set_option maxRecDepth 100000 in
theorem sb_11 : isSub nd_11 ((tables_1_6).drop 95) = true := by decide +kernel
theorem im_11 {i : Nat} {w : Cond} (h : nd_11[i]? = some w) : w ∈ lw_tbl := tin_6 (List.mem_of_mem_drop (isSub_mem _ _ sb_11 w (List.mem_of_getElem? h)))
def nd_12 : List Cond := [(Jvm.Cond.laysFinal "BlueBagModel" "BlueBagModel" "cellTold" "[I"), (Jvm.Cond.laysFinal "BlueBagModel" "BlueBagModel" "signsDyes" "[I"), (Jvm.Cond.laysFinal "BlueBagModel" "BlueBagModel" "signsFades" "[I"), (Jvm.Cond.laysFinal "BlueBagModel" "BlueBagModel" "status" "[I"), (Jvm.Cond.laysFinal "BlueBagModel" "BlueBagModel" "skills" "[I"), (Jvm.Cond.laysFinal "BlueBagModel" "BlueBagModel" "tape" "[I"), (Jvm.Cond.lays "BlueBagModel" "BlueBagModel" "taped" "I"), (Jvm.Cond.lays "BlueBagModel" "BlueBagModel" "at" "I"), (Jvm.Cond.lays "BlueBagModel" "BlueBagModel" "size" "I"), (Jvm.Cond.lays "BlueBagModel" "BlueBagModel" "token" "I"), (Jvm.Cond.lays "BlueBagModel" "BlueBagModel" "number" "I"), (Jvm.Cond.lays "BlueBagModel" "BlueBagModel" "begins" "I"), (Jvm.Cond.lays "BlueBagModel" "BlueBagModel" "stops" "I"), (Jvm.Cond.lays "BlueBagModel" "BlueBagModel" "bad" "I"), (Jvm.Cond.lays "BlueBagModel" "BlueBagModel" "badPlace" "I"), (Jvm.Cond.lays "BlueBagModel" "BlueBagModel" "faultPlace" "I"), (Jvm.Cond.lays "BlueBagModel" "BlueBagModel" "blued" "I")]
set_option maxRecDepth 100000 in
theorem sb_12 : isSub nd_12 ((tables_1_6).drop 207) = true := by decide +kernel
theorem im_12 {i : Nat} {w : Cond} (h : nd_12[i]? = some w) : w ∈ lw_tbl := tin_6 (List.mem_of_mem_drop (isSub_mem _ _ sb_12 w (List.mem_of_getElem? h)))
def nd_13 : List Cond := [(Jvm.Cond.lays "BlueBagModel" "BlueBagModel" "anyCell" "Z"), (Jvm.Cond.lays "BlueBagModel" "BlueBagModel" "ofFading" "Z"), (Jvm.Cond.laysFinal "BlueBagModel" "BlueBagModel" "blue" "[I"), (Jvm.Cond.laysFinal "BlueBagModel" "BlueBagModel" "where" "[I"), (Jvm.Cond.laysFinal "BlueBagModel" "BlueBagModel" "past" "[I"), (Jvm.Cond.lays "BlueBagModel" "BlueBagModel" "day" "I"), (Jvm.Cond.lays "BlueBagModel" "BlueBagModel" "knobs" "I"), (Jvm.Cond.lays "BlueBagModel" "BlueBagModel" "martins" "I"), (Jvm.Cond.lays "BlueBagModel" "BlueBagModel" "pegs" "I"), (Jvm.Cond.lays "BlueBagModel" "BlueBagModel" "resting" "I"), (Jvm.Cond.lays "BlueBagModel" "BlueBagModel" "acts" "I"), (Jvm.Cond.lays "BlueBagModel" "BlueBagModel" "seen" "I"), (Jvm.Cond.laysFinal "BlueBagModel" "BlueBagModel" "asked" "[I"), (Jvm.Cond.laysFinal "BlueBagModel" "BlueBagModel" "stack" "[I"), (Jvm.Cond.laysFinal "BlueBagModel" "BlueBagModel" "fading" "[I"), (Jvm.Cond.lays "BlueBagModel" "BlueBagModel" "over" "I"), (Jvm.Cond.laysFinal "BlueBagModel" "BlueBagModel" "rowThen" "[I"), (Jvm.Cond.laysFinal "BlueBagModel" "BlueBagModel" "blueThen" "[I"), (Jvm.Cond.laysFinal "BlueBagModel" "BlueBagModel" "leastBy" "[I"), (Jvm.Cond.laysFinal "BlueBagModel" "BlueBagModel" "goals" "[I"), (Jvm.Cond.laysFinal "BlueBagModel" "BlueBagModel" "seenCell" "[I"), (Jvm.Cond.laysFinal "BlueBagModel" "BlueBagModel" "seenIn" "[I"), (Jvm.Cond.laysFinal "BlueBagModel" "BlueBagModel" "seenBlue" "[I"), (Jvm.Cond.laysFinal "BlueBagModel" "BlueBagModel" "rowSeen" "[I"), (Jvm.Cond.laysFinal "BlueBagModel" "BlueBagModel" "fits" "[I"), (Jvm.Cond.laysFinal "BlueBagModel" "BlueBagModel" "bluesThen" "[I"), (Jvm.Cond.lays "BlueBagModel" "BlueBagModel" "fitMany" "I"), (Jvm.Cond.laysFinal "BlueBagModel" "BlueBagModel" "gains" "[I"), (Jvm.Cond.lays "BlueBagModel" "BlueBagModel" "seedNow" "I"), (Jvm.Cond.lays "BlueBagModel" "BlueBagModel" "hasImage" "Z"), (Jvm.Cond.lays "BlueBagModel" "BlueBagModel" "actsThen" "I"), (Jvm.Cond.lays "BlueBagModel" "BlueBagModel" "seenThen" "I"), (Jvm.Cond.laysFinal "BlueBagModel" "BlueBagModel" "imageRow" "[I"), (Jvm.Cond.laysFinal "BlueBagModel" "BlueBagModel" "pastThen" "[I"), (Jvm.Cond.laysFinal "BlueBagModel" "BlueBagModel" "seenCellThen" "[I"), (Jvm.Cond.laysFinal "BlueBagModel" "BlueBagModel" "seenInThen" "[I"), (Jvm.Cond.laysFinal "BlueBagModel" "BlueBagModel" "seenBlueThen" "[I"), (Jvm.Cond.laysFinal "BlueBagModel" "BlueBagModel" "statusThen" "[I")]
set_option maxRecDepth 100000 in
theorem sb_13 : isSub nd_13 ((tables_1_7).drop 1) = true := by decide +kernel
theorem im_13 {i : Nat} {w : Cond} (h : nd_13[i]? = some w) : w ∈ lw_tbl := tin_7 (List.mem_of_mem_drop (isSub_mem _ _ sb_13 w (List.mem_of_getElem? h)))
def nd_14 : List Cond := [(Jvm.Cond.sameMethod "java/lang/Throwable" "java/lang/Throwable" "fillInStackTrace" "(I)Ljava/lang/Throwable;"), (Jvm.Cond.castable "java/lang/IllegalArgumentException" "java/lang/Object"), (Jvm.Cond.castable "java/util/NoSuchElementException" "java/lang/Object"), (Jvm.Cond.castable "java/lang/Throwable" "java/lang/Object"), (Jvm.Cond.fieldLink "java/lang/String" (9 : Nat) "java/lang/String" "value" "[B"), (Jvm.Cond.fieldLink "java/lang/String" (15 : Nat) "java/lang/String" "coder" "B")]
set_option maxRecDepth 100000 in
theorem sb_14 : isSub nd_14 ((tables_1_9).drop 52) = true := by decide +kernel
theorem im_14 {i : Nat} {w : Cond} (h : nd_14[i]? = some w) : w ∈ lw_tbl := tin_9 (List.mem_of_mem_drop (isSub_mem _ _ sb_14 w (List.mem_of_getElem? h)))
theorem in_X0 : ∀ w ∈ u_ws RX0 TX0 2, w ∈ lw_tbl := by
  have e : u_ws RX0 TX0 2 = [(Jvm.Cond.laysFinal "BlueBag$Acts" "BlueBag$Acts" "rows" "[I"), (Jvm.Cond.lays "BlueBag$Acts" "BlueBag$Acts" "kept" "I")] := by decide +kernel
  rw [e]; exact List.forall_mem_cons.mpr ⟨(im_4 (i := 34) rfl), List.forall_mem_cons.mpr ⟨(im_4 (i := 35) rfl), fun _ h => absurd h List.not_mem_nil⟩⟩
theorem cls_0 : CLS 0 (RX0, TX0, 2) := ⟨rfl, in_X0, ⟨tyX0, tyX0_ok⟩, nmX0, rfl⟩
theorem in_X1 : ∀ w ∈ u_ws RX1 TX1 9, w ∈ lw_tbl := by
  have e : u_ws RX1 TX1 9 = [(Jvm.Cond.lays "BlueBag$Coast" "BlueBag$Coast" "wide" "I"), (Jvm.Cond.lays "BlueBag$Coast" "BlueBag$Coast" "high" "I"), (Jvm.Cond.lays "BlueBag$Coast" "BlueBag$Coast" "rinse" "I"), (Jvm.Cond.lays "BlueBag$Coast" "BlueBag$Coast" "bound" "I"), (Jvm.Cond.lays "BlueBag$Coast" "BlueBag$Coast" "girls" "I"), (Jvm.Cond.lays "BlueBag$Coast" "BlueBag$Coast" "olds" "I"), (Jvm.Cond.laysFinal "BlueBag$Coast" "BlueBag$Coast" "beside" "[I"), (Jvm.Cond.laysFinal "BlueBag$Coast" "BlueBag$Coast" "dyes" "LBlueBag$Rule;"), (Jvm.Cond.laysFinal "BlueBag$Coast" "BlueBag$Coast" "fades" "LBlueBag$Rule;")] := by decide +kernel
  rw [e]; exact List.forall_mem_cons.mpr ⟨(im_2 (i := 25) rfl), List.forall_mem_cons.mpr ⟨(im_2 (i := 26) rfl), List.forall_mem_cons.mpr ⟨(im_2 (i := 27) rfl), List.forall_mem_cons.mpr ⟨(im_2 (i := 28) rfl), List.forall_mem_cons.mpr ⟨(im_2 (i := 29) rfl), List.forall_mem_cons.mpr ⟨(im_2 (i := 30) rfl), List.forall_mem_cons.mpr ⟨(im_2 (i := 31) rfl), List.forall_mem_cons.mpr ⟨(im_2 (i := 32) rfl), List.forall_mem_cons.mpr ⟨(im_2 (i := 33) rfl), fun _ h => absurd h List.not_mem_nil⟩⟩⟩⟩⟩⟩⟩⟩⟩
theorem cls_1 : CLS 1 (RX1, TX1, 9) := ⟨rfl, in_X1, ⟨tyX1, tyX1_ok⟩, nmX1, rfl⟩
theorem in_X2 : ∀ w ∈ u_ws RX2 TX2 7, w ∈ lw_tbl := by
  have e : u_ws RX2 TX2 7 = [(Jvm.Cond.laysFinal "BlueBag$CoastReader" "BlueBag$CoastReader" "tokens" "LBlueBag$Tokens;"), (Jvm.Cond.laysFinal "BlueBag$CoastReader" "BlueBag$CoastReader" "rules" "LBlueBag$RuleReader;"), (Jvm.Cond.laysFinal "BlueBag$CoastReader" "BlueBag$CoastReader" "draft" "LBlueBag$Coast;"), (Jvm.Cond.laysFinal "BlueBag$CoastReader" "BlueBag$CoastReader" "draftSky" "LBlueBag$Sky;"), (Jvm.Cond.lays "BlueBag$CoastReader" "BlueBag$CoastReader" "told" "I"), (Jvm.Cond.lays "BlueBag$CoastReader" "BlueBag$CoastReader" "blues" "I"), (Jvm.Cond.lays "BlueBag$CoastReader" "BlueBag$CoastReader" "isCellTold" "Z")] := by decide +kernel
  rw [e]; exact List.forall_mem_cons.mpr ⟨(im_4 (i := 16) rfl), List.forall_mem_cons.mpr ⟨(im_4 (i := 17) rfl), List.forall_mem_cons.mpr ⟨(im_4 (i := 18) rfl), List.forall_mem_cons.mpr ⟨(im_4 (i := 19) rfl), List.forall_mem_cons.mpr ⟨(im_4 (i := 20) rfl), List.forall_mem_cons.mpr ⟨(im_4 (i := 21) rfl), List.forall_mem_cons.mpr ⟨(im_4 (i := 22) rfl), fun _ h => absurd h List.not_mem_nil⟩⟩⟩⟩⟩⟩⟩
theorem cls_2 : CLS 2 (RX2, TX2, 7) := ⟨rfl, in_X2, ⟨tyX2, tyX2_ok⟩, nmX2, rfl⟩
theorem in_X3 : ∀ w ∈ u_ws RX3 TX3 1, w ∈ lw_tbl := by
  have e : u_ws RX3 TX3 1 = [(Jvm.Cond.lays "BlueBag$Dice" "BlueBag$Dice" "seed" "I")] := by decide +kernel
  rw [e]; exact List.forall_mem_cons.mpr ⟨(im_5 (i := 16) rfl), fun _ h => absurd h List.not_mem_nil⟩
theorem cls_3 : CLS 3 (RX3, TX3, 1) := ⟨rfl, in_X3, ⟨tyX3, tyX3_ok⟩, nmX3, rfl⟩
theorem in_X4 : ∀ w ∈ u_ws RX4 TX4 7, w ∈ lw_tbl := by
  have e : u_ws RX4 TX4 7 = [(Jvm.Cond.laysFinal "BlueBag$Memory" "BlueBag$Memory" "sky" "LBlueBag$Sky;"), (Jvm.Cond.laysFinal "BlueBag$Memory" "BlueBag$Memory" "acts" "LBlueBag$Acts;"), (Jvm.Cond.laysFinal "BlueBag$Memory" "BlueBag$Memory" "seenCells" "[I"), (Jvm.Cond.laysFinal "BlueBag$Memory" "BlueBag$Memory" "seenDays" "[I"), (Jvm.Cond.laysFinal "BlueBag$Memory" "BlueBag$Memory" "seenBlues" "[I"), (Jvm.Cond.laysFinal "BlueBag$Memory" "BlueBag$Memory" "status" "[I"), (Jvm.Cond.lays "BlueBag$Memory" "BlueBag$Memory" "seen" "I")] := by decide +kernel
  rw [e]; exact List.forall_mem_cons.mpr ⟨(im_4 (i := 45) rfl), List.forall_mem_cons.mpr ⟨(im_4 (i := 46) rfl), List.forall_mem_cons.mpr ⟨(im_4 (i := 47) rfl), List.forall_mem_cons.mpr ⟨(im_4 (i := 48) rfl), List.forall_mem_cons.mpr ⟨(im_4 (i := 49) rfl), List.forall_mem_cons.mpr ⟨(im_4 (i := 50) rfl), List.forall_mem_cons.mpr ⟨(im_4 (i := 51) rfl), fun _ h => absurd h List.not_mem_nil⟩⟩⟩⟩⟩⟩⟩
theorem cls_4 : CLS 4 (RX4, TX4, 7) := ⟨rfl, in_X4, ⟨tyX4, tyX4_ok⟩, nmX4, rfl⟩
theorem in_X5 : ∀ w ∈ u_ws RX5 TX5 3, w ∈ lw_tbl := by
  have e : u_ws RX5 TX5 3 = [(Jvm.Cond.laysFinal "BlueBag$Rule" "BlueBag$Rule" "code" "[I"), (Jvm.Cond.laysFinal "BlueBag$Rule" "BlueBag$Rule" "stack" "[I"), (Jvm.Cond.lays "BlueBag$Rule" "BlueBag$Rule" "length" "I")] := by decide +kernel
  rw [e]; exact List.forall_mem_cons.mpr ⟨(im_1 (i := 48) rfl), List.forall_mem_cons.mpr ⟨(im_1 (i := 49) rfl), List.forall_mem_cons.mpr ⟨(im_1 (i := 50) rfl), fun _ h => absurd h List.not_mem_nil⟩⟩⟩
theorem cls_5 : CLS 5 (RX5, TX5, 3) := ⟨rfl, in_X5, ⟨tyX5, tyX5_ok⟩, nmX5, rfl⟩
theorem in_X6 : ∀ w ∈ u_ws RX6 TX6 3, w ∈ lw_tbl := by
  have e : u_ws RX6 TX6 3 = [(Jvm.Cond.laysFinal "BlueBag$RuleReader" "BlueBag$RuleReader" "tokens" "LBlueBag$Tokens;"), (Jvm.Cond.lays "BlueBag$RuleReader" "BlueBag$RuleReader" "rule" "LBlueBag$Rule;"), (Jvm.Cond.lays "BlueBag$RuleReader" "BlueBag$RuleReader" "isOfDyes" "Z")] := by decide +kernel
  rw [e]; exact List.forall_mem_cons.mpr ⟨(im_4 (i := 9) rfl), List.forall_mem_cons.mpr ⟨(im_4 (i := 10) rfl), List.forall_mem_cons.mpr ⟨(im_4 (i := 11) rfl), fun _ h => absurd h List.not_mem_nil⟩⟩⟩
theorem cls_6 : CLS 6 (RX6, TX6, 3) := ⟨rfl, in_X6, ⟨tyX6, tyX6_ok⟩, nmX6, rfl⟩
theorem in_X7 : ∀ w ∈ u_ws RX7 TX7 6, w ∈ lw_tbl := by
  have e : u_ws RX7 TX7 6 = [(Jvm.Cond.laysFinal "BlueBag$Sending" "BlueBag$Sending" "goals" "[I"), (Jvm.Cond.laysFinal "BlueBag$Sending" "BlueBag$Sending" "row" "[I"), (Jvm.Cond.laysFinal "BlueBag$Sending" "BlueBag$Sending" "bestRow" "[I"), (Jvm.Cond.laysFinal "BlueBag$Sending" "BlueBag$Sending" "sky" "LBlueBag$Sky;"), (Jvm.Cond.lays "BlueBag$Sending" "BlueBag$Sending" "many" "I"), (Jvm.Cond.lays "BlueBag$Sending" "BlueBag$Sending" "least" "I")] := by decide +kernel
  rw [e]; exact List.forall_mem_cons.mpr ⟨(im_5 (i := 3) rfl), List.forall_mem_cons.mpr ⟨(im_5 (i := 4) rfl), List.forall_mem_cons.mpr ⟨(im_5 (i := 5) rfl), List.forall_mem_cons.mpr ⟨(im_5 (i := 6) rfl), List.forall_mem_cons.mpr ⟨(im_5 (i := 7) rfl), List.forall_mem_cons.mpr ⟨(im_5 (i := 8) rfl), fun _ h => absurd h List.not_mem_nil⟩⟩⟩⟩⟩⟩
theorem cls_7 : CLS 7 (RX7, TX7, 6) := ⟨rfl, in_X7, ⟨tyX7, tyX7_ok⟩, nmX7, rfl⟩
theorem in_X8 : ∀ w ∈ u_ws RX8 TX8 13, w ∈ lw_tbl := by
  have e : u_ws RX8 TX8 13 = [(Jvm.Cond.laysFinal "BlueBag$Sky" "BlueBag$Sky" "coast" "LBlueBag$Coast;"), (Jvm.Cond.laysFinal "BlueBag$Sky" "BlueBag$Sky" "blue" "[I"), (Jvm.Cond.laysFinal "BlueBag$Sky" "BlueBag$Sky" "morning" "[I"), (Jvm.Cond.laysFinal "BlueBag$Sky" "BlueBag$Sky" "less" "[I"), (Jvm.Cond.laysFinal "BlueBag$Sky" "BlueBag$Sky" "spot" "[I"), (Jvm.Cond.laysFinal "BlueBag$Sky" "BlueBag$Sky" "skill" "[I"), (Jvm.Cond.laysFinal "BlueBag$Sky" "BlueBag$Sky" "values" "[I"), (Jvm.Cond.lays "BlueBag$Sky" "BlueBag$Sky" "pegs" "I"), (Jvm.Cond.lays "BlueBag$Sky" "BlueBag$Sky" "resting" "I"), (Jvm.Cond.lays "BlueBag$Sky" "BlueBag$Sky" "knobs" "I"), (Jvm.Cond.lays "BlueBag$Sky" "BlueBag$Sky" "martins" "I"), (Jvm.Cond.lays "BlueBag$Sky" "BlueBag$Sky" "day" "I"), (Jvm.Cond.lays "BlueBag$Sky" "BlueBag$Sky" "overdone" "I")] := by decide +kernel
  rw [e]; exact List.forall_mem_cons.mpr ⟨(im_3 (i := 4) rfl), List.forall_mem_cons.mpr ⟨(im_3 (i := 5) rfl), List.forall_mem_cons.mpr ⟨(im_3 (i := 6) rfl), List.forall_mem_cons.mpr ⟨(im_3 (i := 7) rfl), List.forall_mem_cons.mpr ⟨(im_3 (i := 8) rfl), List.forall_mem_cons.mpr ⟨(im_3 (i := 9) rfl), List.forall_mem_cons.mpr ⟨(im_3 (i := 10) rfl), List.forall_mem_cons.mpr ⟨(im_3 (i := 11) rfl), List.forall_mem_cons.mpr ⟨(im_3 (i := 12) rfl), List.forall_mem_cons.mpr ⟨(im_3 (i := 13) rfl), List.forall_mem_cons.mpr ⟨(im_3 (i := 14) rfl), List.forall_mem_cons.mpr ⟨(im_3 (i := 15) rfl), List.forall_mem_cons.mpr ⟨(im_3 (i := 16) rfl), fun _ h => absurd h List.not_mem_nil⟩⟩⟩⟩⟩⟩⟩⟩⟩⟩⟩⟩⟩
theorem cls_8 : CLS 8 (RX8, TX8, 13) := ⟨rfl, in_X8, ⟨tyX8, tyX8_ok⟩, nmX8, rfl⟩
theorem in_X9 : ∀ w ∈ u_ws RX9 TX9 2, w ∈ lw_tbl := by
  have e : u_ws RX9 TX9 2 = [(Jvm.Cond.laysFinal "BlueBag$Tape" "BlueBag$Tape" "bytes" "[B"), (Jvm.Cond.lays "BlueBag$Tape" "BlueBag$Tape" "length" "I")] := by decide +kernel
  rw [e]; exact List.forall_mem_cons.mpr ⟨(im_1 (i := 32) rfl), List.forall_mem_cons.mpr ⟨(im_1 (i := 33) rfl), fun _ h => absurd h List.not_mem_nil⟩⟩
theorem cls_9 : CLS 9 (RX9, TX9, 2) := ⟨rfl, in_X9, ⟨tyX9, tyX9_ok⟩, nmX9, rfl⟩
theorem in_X10 : ∀ w ∈ u_ws RX10 TX10 8, w ∈ lw_tbl := by
  have e : u_ws RX10 TX10 8 = [(Jvm.Cond.laysFinal "BlueBag$Tokens" "BlueBag$Tokens" "tape" "LBlueBag$Tape;"), (Jvm.Cond.lays "BlueBag$Tokens" "BlueBag$Tokens" "end" "I"), (Jvm.Cond.lays "BlueBag$Tokens" "BlueBag$Tokens" "kind" "I"), (Jvm.Cond.lays "BlueBag$Tokens" "BlueBag$Tokens" "start" "I"), (Jvm.Cond.lays "BlueBag$Tokens" "BlueBag$Tokens" "next" "I"), (Jvm.Cond.lays "BlueBag$Tokens" "BlueBag$Tokens" "number" "I"), (Jvm.Cond.lays "BlueBag$Tokens" "BlueBag$Tokens" "fault" "I"), (Jvm.Cond.lays "BlueBag$Tokens" "BlueBag$Tokens" "faultPlace" "I")] := by decide +kernel
  rw [e]; exact List.forall_mem_cons.mpr ⟨(im_3 (i := 23) rfl), List.forall_mem_cons.mpr ⟨(im_3 (i := 24) rfl), List.forall_mem_cons.mpr ⟨(im_3 (i := 25) rfl), List.forall_mem_cons.mpr ⟨(im_3 (i := 26) rfl), List.forall_mem_cons.mpr ⟨(im_3 (i := 27) rfl), List.forall_mem_cons.mpr ⟨(im_3 (i := 28) rfl), List.forall_mem_cons.mpr ⟨(im_4 (i := 0) rfl), List.forall_mem_cons.mpr ⟨(im_4 (i := 1) rfl), fun _ h => absurd h List.not_mem_nil⟩⟩⟩⟩⟩⟩⟩⟩
theorem cls_10 : CLS 10 (RX10, TX10, 8) := ⟨rfl, in_X10, ⟨tyX10, tyX10_ok⟩, nmX10, rfl⟩
theorem in_X11 : ∀ w ∈ u_ws RX11 TX11 13, w ∈ lw_tbl := by
  have e : u_ws RX11 TX11 13 = [(Jvm.Cond.laysFinal "BlueBag" "BlueBag" "tape" "LBlueBag$Tape;"), (Jvm.Cond.laysFinal "BlueBag" "BlueBag" "coast" "LBlueBag$Coast;"), (Jvm.Cond.laysFinal "BlueBag" "BlueBag" "reader" "LBlueBag$CoastReader;"), (Jvm.Cond.laysFinal "BlueBag" "BlueBag" "present" "LBlueBag$Memory;"), (Jvm.Cond.laysFinal "BlueBag" "BlueBag" "pictured" "LBlueBag$Memory;"), (Jvm.Cond.laysFinal "BlueBag" "BlueBag" "trial" "LBlueBag$Sky;"), (Jvm.Cond.laysFinal "BlueBag" "BlueBag" "sending" "LBlueBag$Sending;"), (Jvm.Cond.laysFinal "BlueBag" "BlueBag" "dice" "LBlueBag$Dice;"), (Jvm.Cond.laysFinal "BlueBag" "BlueBag" "lowBlues" "[J"), (Jvm.Cond.laysFinal "BlueBag" "BlueBag" "highBlues" "[J"), (Jvm.Cond.laysFinal "BlueBag" "BlueBag" "gains" "[I"), (Jvm.Cond.lays "BlueBag" "BlueBag" "isPictured" "Z"), (Jvm.Cond.lays "BlueBag" "BlueBag" "faultPlace" "I")] := by decide +kernel
  rw [e]; exact List.forall_mem_cons.mpr ⟨(im_5 (i := 29) rfl), List.forall_mem_cons.mpr ⟨(im_5 (i := 30) rfl), List.forall_mem_cons.mpr ⟨(im_5 (i := 31) rfl), List.forall_mem_cons.mpr ⟨(im_5 (i := 32) rfl), List.forall_mem_cons.mpr ⟨(im_5 (i := 33) rfl), List.forall_mem_cons.mpr ⟨(im_5 (i := 34) rfl), List.forall_mem_cons.mpr ⟨(im_5 (i := 35) rfl), List.forall_mem_cons.mpr ⟨(im_5 (i := 36) rfl), List.forall_mem_cons.mpr ⟨(im_5 (i := 37) rfl), List.forall_mem_cons.mpr ⟨(im_5 (i := 38) rfl), List.forall_mem_cons.mpr ⟨(im_5 (i := 39) rfl), List.forall_mem_cons.mpr ⟨(im_5 (i := 40) rfl), List.forall_mem_cons.mpr ⟨(im_5 (i := 41) rfl), fun _ h => absurd h List.not_mem_nil⟩⟩⟩⟩⟩⟩⟩⟩⟩⟩⟩⟩⟩
theorem cls_11 : CLS 11 (RX11, TX11, 13) := ⟨rfl, in_X11, ⟨tyX11, tyX11_ok⟩, nmX11, rfl⟩
theorem in_X12 : ∀ w ∈ u_ws RX12 TX12 64, w ∈ lw_tbl := by
  have e : u_ws RX12 TX12 64 = [(Jvm.Cond.laysFinal "BlueBagModel" "BlueBagModel" "women" "[Ljava/lang/String;"), (Jvm.Cond.laysFinal "BlueBagModel" "BlueBagModel" "ofDyes" "[Ljava/lang/String;"), (Jvm.Cond.laysFinal "BlueBagModel" "BlueBagModel" "ofFades" "[Ljava/lang/String;"), (Jvm.Cond.lays "BlueBagModel" "BlueBagModel" "values" "[Ljava/lang/String;"), (Jvm.Cond.lays "BlueBagModel" "BlueBagModel" "code" "I"), (Jvm.Cond.laysFinal "BlueBagModel" "BlueBagModel" "told" "[I"), (Jvm.Cond.laysFinal "BlueBagModel" "BlueBagModel" "blueTold" "[I"), (Jvm.Cond.laysFinal "BlueBagModel" "BlueBagModel" "aged" "[I"), (Jvm.Cond.laysFinal "BlueBagModel" "BlueBagModel" "skillTold" "[I"), (Jvm.Cond.laysFinal "BlueBagModel" "BlueBagModel" "cellTold" "[I"), (Jvm.Cond.laysFinal "BlueBagModel" "BlueBagModel" "signsDyes" "[I"), (Jvm.Cond.laysFinal "BlueBagModel" "BlueBagModel" "signsFades" "[I"), (Jvm.Cond.laysFinal "BlueBagModel" "BlueBagModel" "status" "[I"), (Jvm.Cond.laysFinal "BlueBagModel" "BlueBagModel" "skills" "[I"), (Jvm.Cond.laysFinal "BlueBagModel" "BlueBagModel" "tape" "[I"), (Jvm.Cond.lays "BlueBagModel" "BlueBagModel" "taped" "I"), (Jvm.Cond.lays "BlueBagModel" "BlueBagModel" "at" "I"), (Jvm.Cond.lays "BlueBagModel" "BlueBagModel" "size" "I"), (Jvm.Cond.lays "BlueBagModel" "BlueBagModel" "token" "I"), (Jvm.Cond.lays "BlueBagModel" "BlueBagModel" "number" "I"), (Jvm.Cond.lays "BlueBagModel" "BlueBagModel" "begins" "I"), (Jvm.Cond.lays "BlueBagModel" "BlueBagModel" "stops" "I"), (Jvm.Cond.lays "BlueBagModel" "BlueBagModel" "bad" "I"), (Jvm.Cond.lays "BlueBagModel" "BlueBagModel" "badPlace" "I"), (Jvm.Cond.lays "BlueBagModel" "BlueBagModel" "faultPlace" "I"), (Jvm.Cond.lays "BlueBagModel" "BlueBagModel" "blued" "I"), (Jvm.Cond.lays "BlueBagModel" "BlueBagModel" "anyCell" "Z"), (Jvm.Cond.lays "BlueBagModel" "BlueBagModel" "ofFading" "Z"), (Jvm.Cond.laysFinal "BlueBagModel" "BlueBagModel" "blue" "[I"), (Jvm.Cond.laysFinal "BlueBagModel" "BlueBagModel" "where" "[I"), (Jvm.Cond.laysFinal "BlueBagModel" "BlueBagModel" "past" "[I"), (Jvm.Cond.lays "BlueBagModel" "BlueBagModel" "day" "I"), (Jvm.Cond.lays "BlueBagModel" "BlueBagModel" "knobs" "I"), (Jvm.Cond.lays "BlueBagModel" "BlueBagModel" "martins" "I"), (Jvm.Cond.lays "BlueBagModel" "BlueBagModel" "pegs" "I"), (Jvm.Cond.lays "BlueBagModel" "BlueBagModel" "resting" "I"), (Jvm.Cond.lays "BlueBagModel" "BlueBagModel" "acts" "I"), (Jvm.Cond.lays "BlueBagModel" "BlueBagModel" "seen" "I"), (Jvm.Cond.laysFinal "BlueBagModel" "BlueBagModel" "asked" "[I"), (Jvm.Cond.laysFinal "BlueBagModel" "BlueBagModel" "stack" "[I"), (Jvm.Cond.laysFinal "BlueBagModel" "BlueBagModel" "fading" "[I"), (Jvm.Cond.lays "BlueBagModel" "BlueBagModel" "over" "I"), (Jvm.Cond.laysFinal "BlueBagModel" "BlueBagModel" "rowThen" "[I"), (Jvm.Cond.laysFinal "BlueBagModel" "BlueBagModel" "blueThen" "[I"), (Jvm.Cond.laysFinal "BlueBagModel" "BlueBagModel" "leastBy" "[I"), (Jvm.Cond.laysFinal "BlueBagModel" "BlueBagModel" "goals" "[I"), (Jvm.Cond.laysFinal "BlueBagModel" "BlueBagModel" "seenCell" "[I"), (Jvm.Cond.laysFinal "BlueBagModel" "BlueBagModel" "seenIn" "[I"), (Jvm.Cond.laysFinal "BlueBagModel" "BlueBagModel" "seenBlue" "[I"), (Jvm.Cond.laysFinal "BlueBagModel" "BlueBagModel" "rowSeen" "[I"), (Jvm.Cond.laysFinal "BlueBagModel" "BlueBagModel" "fits" "[I"), (Jvm.Cond.laysFinal "BlueBagModel" "BlueBagModel" "bluesThen" "[I"), (Jvm.Cond.lays "BlueBagModel" "BlueBagModel" "fitMany" "I"), (Jvm.Cond.laysFinal "BlueBagModel" "BlueBagModel" "gains" "[I"), (Jvm.Cond.lays "BlueBagModel" "BlueBagModel" "seedNow" "I"), (Jvm.Cond.lays "BlueBagModel" "BlueBagModel" "hasImage" "Z"), (Jvm.Cond.lays "BlueBagModel" "BlueBagModel" "actsThen" "I"), (Jvm.Cond.lays "BlueBagModel" "BlueBagModel" "seenThen" "I"), (Jvm.Cond.laysFinal "BlueBagModel" "BlueBagModel" "imageRow" "[I"), (Jvm.Cond.laysFinal "BlueBagModel" "BlueBagModel" "pastThen" "[I"), (Jvm.Cond.laysFinal "BlueBagModel" "BlueBagModel" "seenCellThen" "[I"), (Jvm.Cond.laysFinal "BlueBagModel" "BlueBagModel" "seenInThen" "[I"), (Jvm.Cond.laysFinal "BlueBagModel" "BlueBagModel" "seenBlueThen" "[I"), (Jvm.Cond.laysFinal "BlueBagModel" "BlueBagModel" "statusThen" "[I")] := by decide +kernel
  rw [e]; exact List.forall_mem_cons.mpr ⟨(im_11 (i := 51) rfl), List.forall_mem_cons.mpr ⟨(im_11 (i := 52) rfl), List.forall_mem_cons.mpr ⟨(im_11 (i := 53) rfl), List.forall_mem_cons.mpr ⟨(im_11 (i := 54) rfl), List.forall_mem_cons.mpr ⟨(im_11 (i := 55) rfl), List.forall_mem_cons.mpr ⟨(im_11 (i := 56) rfl), List.forall_mem_cons.mpr ⟨(im_11 (i := 57) rfl), List.forall_mem_cons.mpr ⟨(im_11 (i := 58) rfl), List.forall_mem_cons.mpr ⟨(im_11 (i := 59) rfl), List.forall_mem_cons.mpr ⟨(im_12 (i := 0) rfl), List.forall_mem_cons.mpr ⟨(im_12 (i := 1) rfl), List.forall_mem_cons.mpr ⟨(im_12 (i := 2) rfl), List.forall_mem_cons.mpr ⟨(im_12 (i := 3) rfl), List.forall_mem_cons.mpr ⟨(im_12 (i := 4) rfl), List.forall_mem_cons.mpr ⟨(im_12 (i := 5) rfl), List.forall_mem_cons.mpr ⟨(im_12 (i := 6) rfl), List.forall_mem_cons.mpr ⟨(im_12 (i := 7) rfl), List.forall_mem_cons.mpr ⟨(im_12 (i := 8) rfl), List.forall_mem_cons.mpr ⟨(im_12 (i := 9) rfl), List.forall_mem_cons.mpr ⟨(im_12 (i := 10) rfl), List.forall_mem_cons.mpr ⟨(im_12 (i := 11) rfl), List.forall_mem_cons.mpr ⟨(im_12 (i := 12) rfl), List.forall_mem_cons.mpr ⟨(im_12 (i := 13) rfl), List.forall_mem_cons.mpr ⟨(im_12 (i := 14) rfl), List.forall_mem_cons.mpr ⟨(im_12 (i := 15) rfl), List.forall_mem_cons.mpr ⟨(im_12 (i := 16) rfl), List.forall_mem_cons.mpr ⟨(im_13 (i := 0) rfl), List.forall_mem_cons.mpr ⟨(im_13 (i := 1) rfl), List.forall_mem_cons.mpr ⟨(im_13 (i := 2) rfl), List.forall_mem_cons.mpr ⟨(im_13 (i := 3) rfl), List.forall_mem_cons.mpr ⟨(im_13 (i := 4) rfl), List.forall_mem_cons.mpr ⟨(im_13 (i := 5) rfl), List.forall_mem_cons.mpr ⟨(im_13 (i := 6) rfl), List.forall_mem_cons.mpr ⟨(im_13 (i := 7) rfl), List.forall_mem_cons.mpr ⟨(im_13 (i := 8) rfl), List.forall_mem_cons.mpr ⟨(im_13 (i := 9) rfl), List.forall_mem_cons.mpr ⟨(im_13 (i := 10) rfl), List.forall_mem_cons.mpr ⟨(im_13 (i := 11) rfl), List.forall_mem_cons.mpr ⟨(im_13 (i := 12) rfl), List.forall_mem_cons.mpr ⟨(im_13 (i := 13) rfl), List.forall_mem_cons.mpr ⟨(im_13 (i := 14) rfl), List.forall_mem_cons.mpr ⟨(im_13 (i := 15) rfl), List.forall_mem_cons.mpr ⟨(im_13 (i := 16) rfl), List.forall_mem_cons.mpr ⟨(im_13 (i := 17) rfl), List.forall_mem_cons.mpr ⟨(im_13 (i := 18) rfl), List.forall_mem_cons.mpr ⟨(im_13 (i := 19) rfl), List.forall_mem_cons.mpr ⟨(im_13 (i := 20) rfl), List.forall_mem_cons.mpr ⟨(im_13 (i := 21) rfl), List.forall_mem_cons.mpr ⟨(im_13 (i := 22) rfl), List.forall_mem_cons.mpr ⟨(im_13 (i := 23) rfl), List.forall_mem_cons.mpr ⟨(im_13 (i := 24) rfl), List.forall_mem_cons.mpr ⟨(im_13 (i := 25) rfl), List.forall_mem_cons.mpr ⟨(im_13 (i := 26) rfl), List.forall_mem_cons.mpr ⟨(im_13 (i := 27) rfl), List.forall_mem_cons.mpr ⟨(im_13 (i := 28) rfl), List.forall_mem_cons.mpr ⟨(im_13 (i := 29) rfl), List.forall_mem_cons.mpr ⟨(im_13 (i := 30) rfl), List.forall_mem_cons.mpr ⟨(im_13 (i := 31) rfl), List.forall_mem_cons.mpr ⟨(im_13 (i := 32) rfl), List.forall_mem_cons.mpr ⟨(im_13 (i := 33) rfl), List.forall_mem_cons.mpr ⟨(im_13 (i := 34) rfl), List.forall_mem_cons.mpr ⟨(im_13 (i := 35) rfl), List.forall_mem_cons.mpr ⟨(im_13 (i := 36) rfl), List.forall_mem_cons.mpr ⟨(im_13 (i := 37) rfl), fun _ h => absurd h List.not_mem_nil⟩⟩⟩⟩⟩⟩⟩⟩⟩⟩⟩⟩⟩⟩⟩⟩⟩⟩⟩⟩⟩⟩⟩⟩⟩⟩⟩⟩⟩⟩⟩⟩⟩⟩⟩⟩⟩⟩⟩⟩⟩⟩⟩⟩⟩⟩⟩⟩⟩⟩⟩⟩⟩⟩⟩⟩⟩⟩⟩⟩⟩⟩⟩⟩
theorem cls_12 : CLS 12 (RX12, TX12, 64) := ⟨rfl, in_X12, ⟨tyX12, tyX12_ok⟩, nmX12, rfl⟩
theorem fl_X11_10 : FLD RX11 10 11 0 := ⟨_, cls_11, by decide, Or.inl (im_5 (i := 17) rfl)⟩
theorem fl_X11_19 : FLD RX11 19 11 1 := ⟨_, cls_11, by decide, Or.inl (im_5 (i := 18) rfl)⟩
theorem fl_X11_28 : FLD RX11 28 11 2 := ⟨_, cls_11, by decide, Or.inl (im_5 (i := 19) rfl)⟩
theorem fl_X11_37 : FLD RX11 37 11 3 := ⟨_, cls_11, by decide, Or.inl (im_5 (i := 20) rfl)⟩
theorem fl_X11_41 : FLD RX11 41 11 4 := ⟨_, cls_11, by decide, Or.inl (im_5 (i := 21) rfl)⟩
theorem fl_X11_47 : FLD RX11 47 11 5 := ⟨_, cls_11, by decide, Or.inl (im_5 (i := 22) rfl)⟩
theorem fl_X11_53 : FLD RX11 53 4 0 := ⟨_, cls_4, by decide, Or.inr ⟨"BlueBag", (im_4 (i := 39) rfl)⟩⟩
theorem fl_X11_59 : FLD RX11 59 11 6 := ⟨_, cls_11, by decide, Or.inl (im_5 (i := 23) rfl)⟩
theorem fl_X11_66 : FLD RX11 66 11 7 := ⟨_, cls_11, by decide, Or.inl (im_5 (i := 24) rfl)⟩
theorem fl_X11_70 : FLD RX11 70 11 8 := ⟨_, cls_11, by decide, Or.inl (im_5 (i := 25) rfl)⟩
theorem fl_X11_74 : FLD RX11 74 11 9 := ⟨_, cls_11, by decide, Or.inl (im_5 (i := 26) rfl)⟩
theorem fl_X11_77 : FLD RX11 77 11 10 := ⟨_, cls_11, by decide, Or.inl (im_5 (i := 27) rfl)⟩
theorem fl_X11_81 : FLD RX11 81 11 12 := ⟨_, cls_11, by decide, Or.inl (im_5 (i := 28) rfl)⟩
theorem fl_X11_134 : FLD RX11 134 1 4 := ⟨_, cls_1, by decide, Or.inr ⟨"BlueBag", (im_2 (i := 16) rfl)⟩⟩
theorem fl_X11_140 : FLD RX11 140 8 9 := ⟨_, cls_8, by decide, Or.inr ⟨"BlueBag", (im_2 (i := 59) rfl)⟩⟩
theorem fl_X11_149 : FLD RX11 149 8 10 := ⟨_, cls_8, by decide, Or.inr ⟨"BlueBag", (im_3 (i := 1) rfl)⟩⟩
theorem fl_X11_334 : FLD RX11 334 3 0 := ⟨_, cls_3, by decide, Or.inr ⟨"BlueBag", (im_5 (i := 15) rfl)⟩⟩
theorem fl_X0_11 : FLD RX0 11 0 0 := ⟨_, cls_0, by decide, Or.inl (im_4 (i := 33) rfl)⟩
theorem fl_X1_9 : FLD RX1 9 1 6 := ⟨_, cls_1, by decide, Or.inl (im_2 (i := 19) rfl)⟩
theorem fl_X1_18 : FLD RX1 18 1 7 := ⟨_, cls_1, by decide, Or.inl (im_2 (i := 20) rfl)⟩
theorem fl_X1_22 : FLD RX1 22 1 8 := ⟨_, cls_1, by decide, Or.inl (im_2 (i := 23) rfl)⟩
theorem fl_X1_32 : FLD RX1 32 1 2 := ⟨_, cls_1, by decide, Or.inl (im_2 (i := 11) rfl)⟩
theorem fl_X1_36 : FLD RX1 36 1 3 := ⟨_, cls_1, by decide, Or.inl (im_2 (i := 13) rfl)⟩
theorem fl_X1_39 : FLD RX1 39 1 4 := ⟨_, cls_1, by decide, Or.inl (im_2 (i := 15) rfl)⟩
theorem fl_X1_42 : FLD RX1 42 1 5 := ⟨_, cls_1, by decide, Or.inl (im_2 (i := 18) rfl)⟩
theorem fl_X1_48 : FLD RX1 48 1 0 := ⟨_, cls_1, by decide, Or.inl (im_2 (i := 9) rfl)⟩
theorem fl_X1_51 : FLD RX1 51 1 1 := ⟨_, cls_1, by decide, Or.inl (im_2 (i := 10) rfl)⟩
theorem fl_X2_12 : FLD RX2 12 2 2 := ⟨_, cls_2, by decide, Or.inl (im_4 (i := 14) rfl)⟩
theorem fl_X2_23 : FLD RX2 23 2 3 := ⟨_, cls_2, by decide, Or.inl (im_4 (i := 15) rfl)⟩
theorem fl_X2_32 : FLD RX2 32 2 0 := ⟨_, cls_2, by decide, Or.inl (im_4 (i := 12) rfl)⟩
theorem fl_X2_38 : FLD RX2 38 1 7 := ⟨_, cls_1, by decide, Or.inr ⟨"BlueBag", (im_2 (i := 21) rfl)⟩⟩
theorem fl_X2_45 : FLD RX2 45 2 1 := ⟨_, cls_2, by decide, Or.inl (im_4 (i := 13) rfl)⟩
theorem fl_X3_7 : FLD RX3 7 3 0 := ⟨_, cls_3, by decide, Or.inl (im_5 (i := 14) rfl)⟩
theorem fl_X4_12 : FLD RX4 12 4 1 := ⟨_, cls_4, by decide, Or.inl (im_4 (i := 40) rfl)⟩
theorem fl_X4_18 : FLD RX4 18 4 2 := ⟨_, cls_4, by decide, Or.inl (im_4 (i := 41) rfl)⟩
theorem fl_X4_22 : FLD RX4 22 4 3 := ⟨_, cls_4, by decide, Or.inl (im_4 (i := 42) rfl)⟩
theorem fl_X4_25 : FLD RX4 25 4 4 := ⟨_, cls_4, by decide, Or.inl (im_4 (i := 43) rfl)⟩
theorem fl_X4_28 : FLD RX4 28 4 5 := ⟨_, cls_4, by decide, Or.inl (im_4 (i := 44) rfl)⟩
theorem fl_X4_36 : FLD RX4 36 4 0 := ⟨_, cls_4, by decide, Or.inl (im_4 (i := 38) rfl)⟩
theorem fl_X5_9 : FLD RX5 9 5 0 := ⟨_, cls_5, by decide, Or.inl (im_1 (i := 45) rfl)⟩
theorem fl_X5_15 : FLD RX5 15 5 1 := ⟨_, cls_5, by decide, Or.inl (im_1 (i := 46) rfl)⟩
theorem fl_X5_18 : FLD RX5 18 5 2 := ⟨_, cls_5, by decide, Or.inl (im_1 (i := 47) rfl)⟩
theorem fl_X6_9 : FLD RX6 9 6 0 := ⟨_, cls_6, by decide, Or.inl (im_4 (i := 7) rfl)⟩
theorem fl_X6_15 : FLD RX6 15 6 1 := ⟨_, cls_6, by decide, Or.inl (im_4 (i := 8) rfl)⟩
theorem fl_X7_9 : FLD RX7 9 7 0 := ⟨_, cls_7, by decide, Or.inl (im_4 (i := 59) rfl)⟩
theorem fl_X7_15 : FLD RX7 15 7 1 := ⟨_, cls_7, by decide, Or.inl (im_5 (i := 0) rfl)⟩
theorem fl_X7_18 : FLD RX7 18 7 2 := ⟨_, cls_7, by decide, Or.inl (im_5 (i := 1) rfl)⟩
theorem fl_X7_21 : FLD RX7 21 7 3 := ⟨_, cls_7, by decide, Or.inl (im_5 (i := 2) rfl)⟩
theorem fl_X8_9 : FLD RX8 9 8 1 := ⟨_, cls_8, by decide, Or.inl (im_2 (i := 50) rfl)⟩
theorem fl_X8_15 : FLD RX8 15 8 2 := ⟨_, cls_8, by decide, Or.inl (im_2 (i := 51) rfl)⟩
theorem fl_X8_18 : FLD RX8 18 8 3 := ⟨_, cls_8, by decide, Or.inl (im_2 (i := 52) rfl)⟩
theorem fl_X8_21 : FLD RX8 21 8 4 := ⟨_, cls_8, by decide, Or.inl (im_2 (i := 53) rfl)⟩
theorem fl_X8_24 : FLD RX8 24 8 5 := ⟨_, cls_8, by decide, Or.inl (im_2 (i := 54) rfl)⟩
theorem fl_X8_29 : FLD RX8 29 8 6 := ⟨_, cls_8, by decide, Or.inl (im_2 (i := 55) rfl)⟩
theorem fl_X8_32 : FLD RX8 32 8 0 := ⟨_, cls_8, by decide, Or.inl (im_2 (i := 49) rfl)⟩
theorem fl_X8_39 : FLD RX8 39 8 7 := ⟨_, cls_8, by decide, Or.inl (im_2 (i := 56) rfl)⟩
theorem fl_X8_43 : FLD RX8 43 8 8 := ⟨_, cls_8, by decide, Or.inl (im_2 (i := 57) rfl)⟩
theorem fl_X8_46 : FLD RX8 46 8 9 := ⟨_, cls_8, by decide, Or.inl (im_2 (i := 58) rfl)⟩
theorem fl_X8_49 : FLD RX8 49 8 10 := ⟨_, cls_8, by decide, Or.inl (im_3 (i := 0) rfl)⟩
theorem fl_X8_52 : FLD RX8 52 8 11 := ⟨_, cls_8, by decide, Or.inl (im_3 (i := 2) rfl)⟩
theorem fl_X8_55 : FLD RX8 55 8 12 := ⟨_, cls_8, by decide, Or.inl (im_3 (i := 3) rfl)⟩
theorem fl_X8_74 : FLD RX8 74 1 4 := ⟨_, cls_1, by decide, Or.inr ⟨"BlueBag", (im_2 (i := 17) rfl)⟩⟩
theorem fl_X8_89 : FLD RX8 89 1 2 := ⟨_, cls_1, by decide, Or.inr ⟨"BlueBag", (im_2 (i := 12) rfl)⟩⟩
theorem fl_X8_98 : FLD RX8 98 1 3 := ⟨_, cls_1, by decide, Or.inr ⟨"BlueBag", (im_2 (i := 14) rfl)⟩⟩
theorem fl_X8_110 : FLD RX8 110 1 8 := ⟨_, cls_1, by decide, Or.inr ⟨"BlueBag", (im_2 (i := 24) rfl)⟩⟩
theorem fl_X8_154 : FLD RX8 154 1 7 := ⟨_, cls_1, by decide, Or.inr ⟨"BlueBag", (im_2 (i := 22) rfl)⟩⟩
theorem fl_X9_9 : FLD RX9 9 9 0 := ⟨_, cls_9, by decide, Or.inl (im_1 (i := 31) rfl)⟩
theorem fl_X10_9 : FLD RX10 9 10 0 := ⟨_, cls_10, by decide, Or.inl (im_3 (i := 22) rfl)⟩
theorem fl_X12_15 : FLD RX12 15 12 0 := ⟨_, cls_12, by decide, Or.inl (im_11 (i := 12) rfl)⟩
theorem fl_X12_31 : FLD RX12 31 12 1 := ⟨_, cls_12, by decide, Or.inl (im_11 (i := 13) rfl)⟩
theorem fl_X12_34 : FLD RX12 34 12 2 := ⟨_, cls_12, by decide, Or.inl (im_11 (i := 14) rfl)⟩
theorem fl_X12_37 : FLD RX12 37 12 3 := ⟨_, cls_12, by decide, Or.inl (im_11 (i := 15) rfl)⟩
theorem fl_X12_40 : FLD RX12 40 12 5 := ⟨_, cls_12, by decide, Or.inl (im_11 (i := 16) rfl)⟩
theorem fl_X12_44 : FLD RX12 44 12 6 := ⟨_, cls_12, by decide, Or.inl (im_11 (i := 17) rfl)⟩
theorem fl_X12_47 : FLD RX12 47 12 7 := ⟨_, cls_12, by decide, Or.inl (im_11 (i := 18) rfl)⟩
theorem fl_X12_50 : FLD RX12 50 12 8 := ⟨_, cls_12, by decide, Or.inl (im_11 (i := 19) rfl)⟩
theorem fl_X12_53 : FLD RX12 53 12 9 := ⟨_, cls_12, by decide, Or.inl (im_11 (i := 20) rfl)⟩
theorem fl_X12_56 : FLD RX12 56 12 10 := ⟨_, cls_12, by decide, Or.inl (im_11 (i := 21) rfl)⟩
theorem fl_X12_59 : FLD RX12 59 12 11 := ⟨_, cls_12, by decide, Or.inl (im_11 (i := 22) rfl)⟩
theorem fl_X12_62 : FLD RX12 62 12 12 := ⟨_, cls_12, by decide, Or.inl (im_11 (i := 23) rfl)⟩
theorem fl_X12_65 : FLD RX12 65 12 13 := ⟨_, cls_12, by decide, Or.inl (im_11 (i := 24) rfl)⟩
theorem fl_X12_68 : FLD RX12 68 12 14 := ⟨_, cls_12, by decide, Or.inl (im_11 (i := 25) rfl)⟩
theorem fl_X12_71 : FLD RX12 71 12 24 := ⟨_, cls_12, by decide, Or.inl (im_11 (i := 26) rfl)⟩
theorem fl_X12_75 : FLD RX12 75 12 28 := ⟨_, cls_12, by decide, Or.inl (im_11 (i := 27) rfl)⟩
theorem fl_X12_77 : FLD RX12 77 12 29 := ⟨_, cls_12, by decide, Or.inl (im_11 (i := 28) rfl)⟩
theorem fl_X12_80 : FLD RX12 80 12 30 := ⟨_, cls_12, by decide, Or.inl (im_11 (i := 29) rfl)⟩
theorem fl_X12_83 : FLD RX12 83 12 38 := ⟨_, cls_12, by decide, Or.inl (im_11 (i := 31) rfl)⟩
theorem fl_X12_86 : FLD RX12 86 12 39 := ⟨_, cls_12, by decide, Or.inl (im_11 (i := 32) rfl)⟩
theorem fl_X12_89 : FLD RX12 89 12 40 := ⟨_, cls_12, by decide, Or.inl (im_11 (i := 33) rfl)⟩
theorem fl_X12_92 : FLD RX12 92 12 42 := ⟨_, cls_12, by decide, Or.inl (im_11 (i := 34) rfl)⟩
theorem fl_X12_95 : FLD RX12 95 12 43 := ⟨_, cls_12, by decide, Or.inl (im_11 (i := 35) rfl)⟩
theorem fl_X12_98 : FLD RX12 98 12 44 := ⟨_, cls_12, by decide, Or.inl (im_11 (i := 36) rfl)⟩
theorem fl_X12_101 : FLD RX12 101 12 45 := ⟨_, cls_12, by decide, Or.inl (im_11 (i := 37) rfl)⟩
theorem fl_X12_104 : FLD RX12 104 12 46 := ⟨_, cls_12, by decide, Or.inl (im_11 (i := 38) rfl)⟩
theorem fl_X12_107 : FLD RX12 107 12 47 := ⟨_, cls_12, by decide, Or.inl (im_11 (i := 39) rfl)⟩
theorem fl_X12_110 : FLD RX12 110 12 48 := ⟨_, cls_12, by decide, Or.inl (im_11 (i := 40) rfl)⟩
theorem fl_X12_113 : FLD RX12 113 12 49 := ⟨_, cls_12, by decide, Or.inl (im_11 (i := 41) rfl)⟩
theorem fl_X12_116 : FLD RX12 116 12 50 := ⟨_, cls_12, by decide, Or.inl (im_11 (i := 42) rfl)⟩
theorem fl_X12_119 : FLD RX12 119 12 51 := ⟨_, cls_12, by decide, Or.inl (im_11 (i := 43) rfl)⟩
theorem fl_X12_122 : FLD RX12 122 12 53 := ⟨_, cls_12, by decide, Or.inl (im_11 (i := 44) rfl)⟩
theorem fl_X12_125 : FLD RX12 125 12 58 := ⟨_, cls_12, by decide, Or.inl (im_11 (i := 45) rfl)⟩
theorem fl_X12_128 : FLD RX12 128 12 59 := ⟨_, cls_12, by decide, Or.inl (im_11 (i := 46) rfl)⟩
theorem fl_X12_131 : FLD RX12 131 12 60 := ⟨_, cls_12, by decide, Or.inl (im_11 (i := 47) rfl)⟩
theorem fl_X12_134 : FLD RX12 134 12 61 := ⟨_, cls_12, by decide, Or.inl (im_11 (i := 48) rfl)⟩
theorem fl_X12_137 : FLD RX12 137 12 62 := ⟨_, cls_12, by decide, Or.inl (im_11 (i := 49) rfl)⟩
theorem fl_X12_140 : FLD RX12 140 12 63 := ⟨_, cls_12, by decide, Or.inl (im_11 (i := 50) rfl)⟩
theorem fl_X12_147 : FLD RX12 147 12 32 := ⟨_, cls_12, by decide, Or.inl (im_11 (i := 30) rfl)⟩
theorem ft_0_0 : FLT 0 0 (.array .int) true := by intro q hq; cases hq; exact ⟨by decide +kernel, rfl⟩
theorem ft_1_0 : FLT 1 0 .int false := by intro q hq; cases hq; exact ⟨by decide +kernel, rfl⟩
theorem ft_1_1 : FLT 1 1 .int false := by intro q hq; cases hq; exact ⟨by decide +kernel, rfl⟩
theorem ft_1_2 : FLT 1 2 .int false := by intro q hq; cases hq; exact ⟨by decide +kernel, rfl⟩
theorem ft_1_3 : FLT 1 3 .int false := by intro q hq; cases hq; exact ⟨by decide +kernel, rfl⟩
theorem ft_1_4 : FLT 1 4 .int false := by intro q hq; cases hq; exact ⟨by decide +kernel, rfl⟩
theorem ft_1_5 : FLT 1 5 .int false := by intro q hq; cases hq; exact ⟨by decide +kernel, rfl⟩
theorem ft_1_6 : FLT 1 6 (.array .int) true := by intro q hq; cases hq; exact ⟨by decide +kernel, rfl⟩
theorem ft_1_7 : FLT 1 7 (.object "BlueBag$Rule") true := by intro q hq; cases hq; exact ⟨by decide +kernel, rfl⟩
theorem ft_1_8 : FLT 1 8 (.object "BlueBag$Rule") true := by intro q hq; cases hq; exact ⟨by decide +kernel, rfl⟩
theorem ft_2_0 : FLT 2 0 (.object "BlueBag$Tokens") true := by intro q hq; cases hq; exact ⟨by decide +kernel, rfl⟩
theorem ft_2_1 : FLT 2 1 (.object "BlueBag$RuleReader") true := by intro q hq; cases hq; exact ⟨by decide +kernel, rfl⟩
theorem ft_2_2 : FLT 2 2 (.object "BlueBag$Coast") true := by intro q hq; cases hq; exact ⟨by decide +kernel, rfl⟩
theorem ft_2_3 : FLT 2 3 (.object "BlueBag$Sky") true := by intro q hq; cases hq; exact ⟨by decide +kernel, rfl⟩
theorem ft_3_0 : FLT 3 0 .int false := by intro q hq; cases hq; exact ⟨by decide +kernel, rfl⟩
theorem ft_4_0 : FLT 4 0 (.object "BlueBag$Sky") true := by intro q hq; cases hq; exact ⟨by decide +kernel, rfl⟩
theorem ft_4_1 : FLT 4 1 (.object "BlueBag$Acts") true := by intro q hq; cases hq; exact ⟨by decide +kernel, rfl⟩
theorem ft_4_2 : FLT 4 2 (.array .int) true := by intro q hq; cases hq; exact ⟨by decide +kernel, rfl⟩
theorem ft_4_3 : FLT 4 3 (.array .int) true := by intro q hq; cases hq; exact ⟨by decide +kernel, rfl⟩
theorem ft_4_4 : FLT 4 4 (.array .int) true := by intro q hq; cases hq; exact ⟨by decide +kernel, rfl⟩
theorem ft_4_5 : FLT 4 5 (.array .int) true := by intro q hq; cases hq; exact ⟨by decide +kernel, rfl⟩
theorem ft_5_0 : FLT 5 0 (.array .int) true := by intro q hq; cases hq; exact ⟨by decide +kernel, rfl⟩
theorem ft_5_1 : FLT 5 1 (.array .int) true := by intro q hq; cases hq; exact ⟨by decide +kernel, rfl⟩
theorem ft_5_2 : FLT 5 2 .int false := by intro q hq; cases hq; exact ⟨by decide +kernel, rfl⟩
theorem ft_6_0 : FLT 6 0 (.object "BlueBag$Tokens") true := by intro q hq; cases hq; exact ⟨by decide +kernel, rfl⟩
theorem ft_6_1 : FLT 6 1 (.object "BlueBag$Rule") false := by intro q hq; cases hq; exact ⟨by decide +kernel, rfl⟩
theorem ft_7_0 : FLT 7 0 (.array .int) true := by intro q hq; cases hq; exact ⟨by decide +kernel, rfl⟩
theorem ft_7_1 : FLT 7 1 (.array .int) true := by intro q hq; cases hq; exact ⟨by decide +kernel, rfl⟩
theorem ft_7_2 : FLT 7 2 (.array .int) true := by intro q hq; cases hq; exact ⟨by decide +kernel, rfl⟩
theorem ft_7_3 : FLT 7 3 (.object "BlueBag$Sky") true := by intro q hq; cases hq; exact ⟨by decide +kernel, rfl⟩
theorem ft_8_0 : FLT 8 0 (.object "BlueBag$Coast") true := by intro q hq; cases hq; exact ⟨by decide +kernel, rfl⟩
theorem ft_8_1 : FLT 8 1 (.array .int) true := by intro q hq; cases hq; exact ⟨by decide +kernel, rfl⟩
theorem ft_8_2 : FLT 8 2 (.array .int) true := by intro q hq; cases hq; exact ⟨by decide +kernel, rfl⟩
theorem ft_8_3 : FLT 8 3 (.array .int) true := by intro q hq; cases hq; exact ⟨by decide +kernel, rfl⟩
theorem ft_8_4 : FLT 8 4 (.array .int) true := by intro q hq; cases hq; exact ⟨by decide +kernel, rfl⟩
theorem ft_8_5 : FLT 8 5 (.array .int) true := by intro q hq; cases hq; exact ⟨by decide +kernel, rfl⟩
theorem ft_8_6 : FLT 8 6 (.array .int) true := by intro q hq; cases hq; exact ⟨by decide +kernel, rfl⟩
theorem ft_8_7 : FLT 8 7 .int false := by intro q hq; cases hq; exact ⟨by decide +kernel, rfl⟩
theorem ft_8_8 : FLT 8 8 .int false := by intro q hq; cases hq; exact ⟨by decide +kernel, rfl⟩
theorem ft_8_9 : FLT 8 9 .int false := by intro q hq; cases hq; exact ⟨by decide +kernel, rfl⟩
theorem ft_8_10 : FLT 8 10 .int false := by intro q hq; cases hq; exact ⟨by decide +kernel, rfl⟩
theorem ft_8_11 : FLT 8 11 .int false := by intro q hq; cases hq; exact ⟨by decide +kernel, rfl⟩
theorem ft_8_12 : FLT 8 12 .int false := by intro q hq; cases hq; exact ⟨by decide +kernel, rfl⟩
theorem ft_9_0 : FLT 9 0 (.array .byte) true := by intro q hq; cases hq; exact ⟨by decide +kernel, rfl⟩
theorem ft_10_0 : FLT 10 0 (.object "BlueBag$Tape") true := by intro q hq; cases hq; exact ⟨by decide +kernel, rfl⟩
theorem ft_11_0 : FLT 11 0 (.object "BlueBag$Tape") true := by intro q hq; cases hq; exact ⟨by decide +kernel, rfl⟩
theorem ft_11_1 : FLT 11 1 (.object "BlueBag$Coast") true := by intro q hq; cases hq; exact ⟨by decide +kernel, rfl⟩
theorem ft_11_2 : FLT 11 2 (.object "BlueBag$CoastReader") true := by intro q hq; cases hq; exact ⟨by decide +kernel, rfl⟩
theorem ft_11_3 : FLT 11 3 (.object "BlueBag$Memory") true := by intro q hq; cases hq; exact ⟨by decide +kernel, rfl⟩
theorem ft_11_4 : FLT 11 4 (.object "BlueBag$Memory") true := by intro q hq; cases hq; exact ⟨by decide +kernel, rfl⟩
theorem ft_11_5 : FLT 11 5 (.object "BlueBag$Sky") true := by intro q hq; cases hq; exact ⟨by decide +kernel, rfl⟩
theorem ft_11_6 : FLT 11 6 (.object "BlueBag$Sending") true := by intro q hq; cases hq; exact ⟨by decide +kernel, rfl⟩
theorem ft_11_7 : FLT 11 7 (.object "BlueBag$Dice") true := by intro q hq; cases hq; exact ⟨by decide +kernel, rfl⟩
theorem ft_11_8 : FLT 11 8 (.array .long) true := by intro q hq; cases hq; exact ⟨by decide +kernel, rfl⟩
theorem ft_11_9 : FLT 11 9 (.array .long) true := by intro q hq; cases hq; exact ⟨by decide +kernel, rfl⟩
theorem ft_11_10 : FLT 11 10 (.array .int) true := by intro q hq; cases hq; exact ⟨by decide +kernel, rfl⟩
theorem ft_11_12 : FLT 11 12 .int false := by intro q hq; cases hq; exact ⟨by decide +kernel, rfl⟩
theorem ft_12_0 : FLT 12 0 (.array (.object "java/lang/String")) true := by intro q hq; cases hq; exact ⟨by decide +kernel, rfl⟩
theorem ft_12_1 : FLT 12 1 (.array (.object "java/lang/String")) true := by intro q hq; cases hq; exact ⟨by decide +kernel, rfl⟩
theorem ft_12_2 : FLT 12 2 (.array (.object "java/lang/String")) true := by intro q hq; cases hq; exact ⟨by decide +kernel, rfl⟩
theorem ft_12_3 : FLT 12 3 (.array (.object "java/lang/String")) false := by intro q hq; cases hq; exact ⟨by decide +kernel, rfl⟩
theorem ft_12_5 : FLT 12 5 (.array .int) true := by intro q hq; cases hq; exact ⟨by decide +kernel, rfl⟩
theorem ft_12_6 : FLT 12 6 (.array .int) true := by intro q hq; cases hq; exact ⟨by decide +kernel, rfl⟩
theorem ft_12_7 : FLT 12 7 (.array .int) true := by intro q hq; cases hq; exact ⟨by decide +kernel, rfl⟩
theorem ft_12_8 : FLT 12 8 (.array .int) true := by intro q hq; cases hq; exact ⟨by decide +kernel, rfl⟩
theorem ft_12_9 : FLT 12 9 (.array .int) true := by intro q hq; cases hq; exact ⟨by decide +kernel, rfl⟩
theorem ft_12_10 : FLT 12 10 (.array .int) true := by intro q hq; cases hq; exact ⟨by decide +kernel, rfl⟩
theorem ft_12_11 : FLT 12 11 (.array .int) true := by intro q hq; cases hq; exact ⟨by decide +kernel, rfl⟩
theorem ft_12_12 : FLT 12 12 (.array .int) true := by intro q hq; cases hq; exact ⟨by decide +kernel, rfl⟩
theorem ft_12_13 : FLT 12 13 (.array .int) true := by intro q hq; cases hq; exact ⟨by decide +kernel, rfl⟩
theorem ft_12_14 : FLT 12 14 (.array .int) true := by intro q hq; cases hq; exact ⟨by decide +kernel, rfl⟩
theorem ft_12_24 : FLT 12 24 .int false := by intro q hq; cases hq; exact ⟨by decide +kernel, rfl⟩
theorem ft_12_28 : FLT 12 28 (.array .int) true := by intro q hq; cases hq; exact ⟨by decide +kernel, rfl⟩
theorem ft_12_29 : FLT 12 29 (.array .int) true := by intro q hq; cases hq; exact ⟨by decide +kernel, rfl⟩
theorem ft_12_30 : FLT 12 30 (.array .int) true := by intro q hq; cases hq; exact ⟨by decide +kernel, rfl⟩
theorem ft_12_32 : FLT 12 32 .int false := by intro q hq; cases hq; exact ⟨by decide +kernel, rfl⟩
theorem ft_12_38 : FLT 12 38 (.array .int) true := by intro q hq; cases hq; exact ⟨by decide +kernel, rfl⟩
theorem ft_12_39 : FLT 12 39 (.array .int) true := by intro q hq; cases hq; exact ⟨by decide +kernel, rfl⟩
theorem ft_12_40 : FLT 12 40 (.array .int) true := by intro q hq; cases hq; exact ⟨by decide +kernel, rfl⟩
theorem ft_12_42 : FLT 12 42 (.array .int) true := by intro q hq; cases hq; exact ⟨by decide +kernel, rfl⟩
theorem ft_12_43 : FLT 12 43 (.array .int) true := by intro q hq; cases hq; exact ⟨by decide +kernel, rfl⟩
theorem ft_12_44 : FLT 12 44 (.array .int) true := by intro q hq; cases hq; exact ⟨by decide +kernel, rfl⟩
theorem ft_12_45 : FLT 12 45 (.array .int) true := by intro q hq; cases hq; exact ⟨by decide +kernel, rfl⟩
theorem ft_12_46 : FLT 12 46 (.array .int) true := by intro q hq; cases hq; exact ⟨by decide +kernel, rfl⟩
theorem ft_12_47 : FLT 12 47 (.array .int) true := by intro q hq; cases hq; exact ⟨by decide +kernel, rfl⟩
theorem ft_12_48 : FLT 12 48 (.array .int) true := by intro q hq; cases hq; exact ⟨by decide +kernel, rfl⟩
theorem ft_12_49 : FLT 12 49 (.array .int) true := by intro q hq; cases hq; exact ⟨by decide +kernel, rfl⟩
theorem ft_12_50 : FLT 12 50 (.array .int) true := by intro q hq; cases hq; exact ⟨by decide +kernel, rfl⟩
theorem ft_12_51 : FLT 12 51 (.array .int) true := by intro q hq; cases hq; exact ⟨by decide +kernel, rfl⟩
theorem ft_12_53 : FLT 12 53 (.array .int) true := by intro q hq; cases hq; exact ⟨by decide +kernel, rfl⟩
theorem ft_12_58 : FLT 12 58 (.array .int) true := by intro q hq; cases hq; exact ⟨by decide +kernel, rfl⟩
theorem ft_12_59 : FLT 12 59 (.array .int) true := by intro q hq; cases hq; exact ⟨by decide +kernel, rfl⟩
theorem ft_12_60 : FLT 12 60 (.array .int) true := by intro q hq; cases hq; exact ⟨by decide +kernel, rfl⟩
theorem ft_12_61 : FLT 12 61 (.array .int) true := by intro q hq; cases hq; exact ⟨by decide +kernel, rfl⟩
theorem ft_12_62 : FLT 12 62 (.array .int) true := by intro q hq; cases hq; exact ⟨by decide +kernel, rfl⟩
theorem ft_12_63 : FLT 12 63 (.array .int) true := by intro q hq; cases hq; exact ⟨by decide +kernel, rfl⟩
theorem mw_X11_drawAhead : MW yX11_drawAhead cX11_drawAhead 2 none 0 := ⟨cw_1405, (im_1 (i := 0) rfl), by decide, by decide +kernel⟩
theorem mw_X11_lookAhead : MW yX11_lookAhead cX11_lookAhead 3 none 1 := ⟨cw_684, (im_1 (i := 0) rfl), by decide, by decide +kernel⟩
theorem mw_X11_needWhat : MW yX11_needWhat cX11_needWhat 3 none 2 := ⟨cw_1191, (im_1 (i := 0) rfl), by decide, by decide +kernel⟩
theorem mw_X11_needWithin : MW yX11_needWithin cX11_needWithin 4 none 3 := ⟨cw_1180, (im_1 (i := 0) rfl), by decide, by decide +kernel⟩
theorem mw_X0_init : MW yX0_init cX0_init 1 none 0 := ⟨cw_403, (im_1 (i := 9) rfl), by decide, by decide +kernel⟩
theorem mw_X1_init : MW yX1_init cX1_init 1 none 0 := ⟨cw_161, (im_1 (i := 2) rfl), by decide, by decide +kernel⟩
theorem mw_X1_begin : MW yX1_begin cX1_begin 1 none 0 := ⟨cw_183, (im_1 (i := 2) rfl), by decide, by decide +kernel⟩
theorem mw_X1_besideBits : MW yX1_besideBits cX1_besideBits 2 (some .int) 1 := ⟨cw_599, (im_1 (i := 2) rfl), by decide, by decide +kernel⟩
theorem mw_X1_bitsBeside : MW yX1_bitsBeside cX1_bitsBeside 3 (some .int) 1 := ⟨cw_195, (im_1 (i := 2) rfl), by decide, by decide +kernel⟩
theorem mw_X1_cells : MW yX1_cells cX1_cells 1 (some .int) 0 := ⟨cw_191, (im_1 (i := 2) rfl), by decide, by decide +kernel⟩
theorem mw_X1_columnOf : MW yX1_columnOf cX1_columnOf 2 (some .int) 1 := ⟨cw_199, (im_1 (i := 2) rfl), by decide, by decide +kernel⟩
theorem mw_X1_isOld : MW yX1_isOld cX1_isOld 2 (some .boolean) 1 := ⟨cw_632, (im_1 (i := 2) rfl), by decide, by decide +kernel⟩
theorem mw_X1_rowOf : MW yX1_rowOf cX1_rowOf 2 (some .int) 1 := ⟨cw_607, (im_1 (i := 2) rfl), by decide, by decide +kernel⟩
theorem mw_X1_shape : MW yX1_shape cX1_shape 4 none 2 := ⟨cw_187, (im_1 (i := 2) rfl), by decide, by decide +kernel⟩
theorem mw_X2_init : MW yX2_init cX2_init 2 none 1 := ⟨cw_253, (im_1 (i := 4) rfl), by decide, by decide +kernel⟩
theorem mw_X3_init : MW yX3_init cX3_init 1 none 0 := ⟨cw_472, (im_1 (i := 11) rfl), by decide, by decide +kernel⟩
theorem mw_X3_draw : MW yX3_draw cX3_draw 3 (some .int) 1 := ⟨cw_1409, (im_1 (i := 11) rfl), by decide, by decide +kernel⟩
theorem mw_X4_init : MW yX4_init cX4_init 2 none 1 := ⟨cw_397, (im_1 (i := 8) rfl), by decide, by decide +kernel⟩
theorem mw_X5_init : MW yX5_init cX5_init 1 none 0 := ⟨cw_167, (im_1 (i := 3) rfl), by decide, by decide +kernel⟩
theorem mw_X5_clear : MW yX5_clear cX5_clear 1 none 0 := ⟨cw_203, (im_1 (i := 3) rfl), by decide, by decide +kernel⟩
theorem mw_X5_isTold : MW yX5_isTold cX5_isTold 1 (some .boolean) 0 := ⟨cw_583, (im_1 (i := 3) rfl), by decide, by decide +kernel⟩
theorem mw_X5_joined : MW yX5_joined cX5_joined 3 (some .int) 3 := ⟨cw_614, (im_1 (i := 3) rfl), by decide, by decide +kernel⟩
theorem mw_X5_worth : MW yX5_worth cX5_worth 6 (some .int) 1 := ⟨cw_611, (im_1 (i := 3) rfl), by decide, by decide +kernel⟩
theorem mw_X6_init : MW yX6_init cX6_init 3 none 2 := ⟨cw_357, (im_1 (i := 7) rfl), by decide, by decide +kernel⟩
theorem mw_X7_init : MW yX7_init cX7_init 2 none 1 := ⟨cw_446, (im_1 (i := 10) rfl), by decide, by decide +kernel⟩
theorem mw_X8_init : MW yX8_init cX8_init 2 none 1 := ⟨cw_261, (im_1 (i := 5) rfl), by decide, by decide +kernel⟩
theorem mw_X8_addBlue : MW yX8_addBlue cX8_addBlue 3 none 2 := ⟨cw_624, (im_1 (i := 5) rfl), by decide, by decide +kernel⟩
theorem mw_X8_addKnobs : MW yX8_addKnobs cX8_addKnobs 2 none 1 := ⟨cw_664, (im_1 (i := 5) rfl), by decide, by decide +kernel⟩
theorem mw_X8_allBlue : MW yX8_allBlue cX8_allBlue 3 (some .int) 0 := ⟨cw_1082, (im_1 (i := 5) rfl), by decide, by decide +kernel⟩
theorem mw_X8_begin : MW yX8_begin cX8_begin 2 none 0 := ⟨cw_266, (im_1 (i := 5) rfl), by decide, by decide +kernel⟩
theorem mw_X8_blueOf : MW yX8_blueOf cX8_blueOf 2 (some .int) 1 := ⟨cw_603, (im_1 (i := 5) rfl), by decide, by decide +kernel⟩
theorem mw_X8_copyFrom : MW yX8_copyFrom cX8_copyFrom 2 none 1 := ⟨cw_688, (im_1 (i := 5) rfl), by decide, by decide +kernel⟩
theorem mw_X8_drip : MW yX8_drip cX8_drip 5 none 2 := ⟨cw_636, (im_1 (i := 5) rfl), by decide, by decide +kernel⟩
theorem mw_X8_dyeOf : MW yX8_dyeOf cX8_dyeOf 3 (some .int) 2 := ⟨cw_579, (im_1 (i := 5) rfl), by decide, by decide +kernel⟩
theorem mw_X8_fade : MW yX8_fade cX8_fade 2 none 0 := ⟨cw_652, (im_1 (i := 5) rfl), by decide, by decide +kernel⟩
theorem mw_X8_fadeOf : MW yX8_fadeOf cX8_fadeOf 2 (some .int) 1 := ⟨cw_656, (im_1 (i := 5) rfl), by decide, by decide +kernel⟩
theorem mw_X8_isPegged : MW yX8_isPegged cX8_isPegged 2 (some .boolean) 1 := ⟨cw_628, (im_1 (i := 5) rfl), by decide, by decide +kernel⟩
theorem mw_X8_isResting : MW yX8_isResting cX8_isResting 2 (some .boolean) 1 := ⟨cw_571, (im_1 (i := 5) rfl), by decide, by decide +kernel⟩
theorem mw_X8_markOverdone : MW yX8_markOverdone cX8_markOverdone 2 none 0 := ⟨cw_642, (im_1 (i := 5) rfl), by decide, by decide +kernel⟩
theorem mw_X8_passDay : MW yX8_passDay cX8_passDay 2 none 0 := ⟨cw_567, (im_1 (i := 5) rfl), by decide, by decide +kernel⟩
theorem mw_X8_setSpot : MW yX8_setSpot cX8_setSpot 3 none 2 := ⟨cw_952, (im_1 (i := 5) rfl), by decide, by decide +kernel⟩
theorem mw_X8_setValues : MW yX8_setValues cX8_setValues 5 none 1 := ⟨cw_595, (im_1 (i := 5) rfl), by decide, by decide +kernel⟩
theorem mw_X8_skillOf : MW yX8_skillOf cX8_skillOf 2 (some .int) 1 := ⟨cw_587, (im_1 (i := 5) rfl), by decide, by decide +kernel⟩
theorem mw_X8_spotOf : MW yX8_spotOf cX8_spotOf 2 (some .int) 1 := ⟨cw_591, (im_1 (i := 5) rfl), by decide, by decide +kernel⟩
theorem mw_X8_swish : MW yX8_swish cX8_swish 7 none 2 := ⟨cw_575, (im_1 (i := 5) rfl), by decide, by decide +kernel⟩
theorem mw_X9_init : MW yX9_init cX9_init 1 none 0 := ⟨cw_146, (im_1 (i := 1) rfl), by decide, by decide +kernel⟩
theorem mw_X10_init : MW yX10_init cX10_init 2 none 1 := ⟨cw_320, (im_1 (i := 6) rfl), by decide, by decide +kernel⟩
theorem mw_X12_begin : MW yX12_begin cX12_begin 3 none 1 := ⟨cw_1431, (im_1 (i := 12) rfl), by decide, by decide +kernel⟩
theorem mw_J6_bitCount_0f7a4 : MW yJ6_bitCount_0f7a4 cJ6_bitCount_0f7a4 1 (some .int) 1 := ⟨cw_645, (im_1 (i := 23) rfl), by decide, by decide +kernel⟩
theorem mv_X11_drawAhead : MV 11 yX11_drawAhead := ⟨(im_11 (i := 1) rfl), (im_0 (i := 9) rfl), rfl⟩
theorem mv_X11_lookAhead : MV 11 yX11_lookAhead := ⟨(im_7 (i := 51) rfl), (im_0 (i := 6) rfl), rfl⟩
theorem mv_X11_needWhat : MV 11 yX11_needWhat := ⟨(im_10 (i := 22) rfl), (im_0 (i := 8) rfl), rfl⟩
theorem mv_X11_needWithin : MV 11 yX11_needWithin := ⟨(im_10 (i := 20) rfl), (im_0 (i := 7) rfl), rfl⟩
theorem mv_X1_begin : MV 1 yX1_begin := ⟨(im_1 (i := 53) rfl), (im_1 (i := 54) rfl), rfl⟩
theorem mv_X1_besideBits : MV 1 yX1_besideBits := ⟨(im_7 (i := 6) rfl), (im_7 (i := 7) rfl), rfl⟩
theorem mv_X1_bitsBeside : MV 1 yX1_bitsBeside := ⟨(im_2 (i := 2) rfl), (im_0 (i := 0) rfl), rfl⟩
theorem mv_X1_cells : MV 1 yX1_cells := ⟨(im_1 (i := 59) rfl), (im_2 (i := 0) rfl), rfl⟩
theorem mv_X1_columnOf : MV 1 yX1_columnOf := ⟨(im_2 (i := 4) rfl), (im_2 (i := 5) rfl), rfl⟩
theorem mv_X1_isOld : MV 1 yX1_isOld := ⟨(im_7 (i := 30) rfl), (im_7 (i := 31) rfl), rfl⟩
theorem mv_X1_rowOf : MV 1 yX1_rowOf := ⟨(im_7 (i := 12) rfl), (im_7 (i := 13) rfl), rfl⟩
theorem mv_X1_shape : MV 1 yX1_shape := ⟨(im_1 (i := 56) rfl), (im_1 (i := 57) rfl), rfl⟩
theorem mv_X3_draw : MV 3 yX3_draw := ⟨(im_11 (i := 3) rfl), (im_11 (i := 4) rfl), rfl⟩
theorem mv_X5_clear : MV 5 yX5_clear := ⟨(im_2 (i := 7) rfl), (im_2 (i := 8) rfl), rfl⟩
theorem mv_X5_isTold : MV 5 yX5_isTold := ⟨(im_5 (i := 59) rfl), (im_6 (i := 0) rfl), rfl⟩
theorem mv_X5_worth : MV 5 yX5_worth := ⟨(im_7 (i := 15) rfl), (im_7 (i := 16) rfl), rfl⟩
theorem mv_X8_addBlue : MV 8 yX8_addBlue := ⟨(im_7 (i := 24) rfl), (im_7 (i := 25) rfl), rfl⟩
theorem mv_X8_addKnobs : MV 8 yX8_addKnobs := ⟨(im_7 (i := 48) rfl), (im_7 (i := 49) rfl), rfl⟩
theorem mv_X8_allBlue : MV 8 yX8_allBlue := ⟨(im_10 (i := 2) rfl), (im_10 (i := 3) rfl), rfl⟩
theorem mv_X8_begin : MV 8 yX8_begin := ⟨(im_2 (i := 47) rfl), (im_2 (i := 48) rfl), rfl⟩
theorem mv_X8_blueOf : MV 8 yX8_blueOf := ⟨(im_7 (i := 9) rfl), (im_7 (i := 10) rfl), rfl⟩
theorem mv_X8_copyFrom : MV 8 yX8_copyFrom := ⟨(im_7 (i := 53) rfl), (im_7 (i := 54) rfl), rfl⟩
theorem mv_X8_drip : MV 8 yX8_drip := ⟨(im_7 (i := 33) rfl), (im_0 (i := 2) rfl), rfl⟩
theorem mv_X8_dyeOf : MV 8 yX8_dyeOf := ⟨(im_5 (i := 56) rfl), (im_5 (i := 57) rfl), rfl⟩
theorem mv_X8_fade : MV 8 yX8_fade := ⟨(im_7 (i := 44) rfl), (im_0 (i := 4) rfl), rfl⟩
theorem mv_X8_fadeOf : MV 8 yX8_fadeOf := ⟨(im_7 (i := 46) rfl), (im_0 (i := 5) rfl), rfl⟩
theorem mv_X8_isPegged : MV 8 yX8_isPegged := ⟨(im_7 (i := 27) rfl), (im_7 (i := 28) rfl), rfl⟩
theorem mv_X8_isResting : MV 8 yX8_isResting := ⟨(im_5 (i := 50) rfl), (im_5 (i := 51) rfl), rfl⟩
theorem mv_X8_markOverdone : MV 8 yX8_markOverdone := ⟨(im_7 (i := 37) rfl), (im_0 (i := 3) rfl), rfl⟩
theorem mv_X8_passDay : MV 8 yX8_passDay := ⟨(im_5 (i := 47) rfl), (im_5 (i := 48) rfl), rfl⟩
theorem mv_X8_setSpot : MV 8 yX8_setSpot := ⟨(im_9 (i := 18) rfl), (im_9 (i := 19) rfl), rfl⟩
theorem mv_X8_setValues : MV 8 yX8_setValues := ⟨(im_7 (i := 4) rfl), (im_0 (i := 1) rfl), rfl⟩
theorem mv_X8_skillOf : MV 8 yX8_skillOf := ⟨(im_6 (i := 2) rfl), (im_6 (i := 3) rfl), rfl⟩
theorem mv_X8_spotOf : MV 8 yX8_spotOf := ⟨(im_7 (i := 1) rfl), (im_7 (i := 2) rfl), rfl⟩
theorem mv_X8_swish : MV 8 yX8_swish := ⟨(im_5 (i := 53) rfl), (im_5 (i := 54) rfl), rfl⟩
theorem mv_X12_begin : MV 12 yX12_begin := ⟨(im_11 (i := 11) rfl), (im_0 (i := 10) rfl), rfl⟩
theorem mst_X5_joined : Cond.static yX5_joined ∈ lw_tbl := (im_7 (i := 18) rfl)
theorem mst_J6_bitCount_0f7a4 : Cond.static yJ6_bitCount_0f7a4 ∈ lw_tbl := (im_7 (i := 39) rfl)
theorem ml_X11_128 : Cond.methodLink RX11 128 yX1_cells ∈ lw_tbl := (im_10 (i := 0) rfl)
theorem ml_X11_158 : Cond.methodLink RX11 158 yX8_allBlue ∈ lw_tbl := (im_10 (i := 1) rfl)
theorem ml_X11_221 : Cond.methodLink RX11 221 yX8_passDay ∈ lw_tbl := (im_5 (i := 46) rfl)
theorem ml_X11_231 : Cond.methodLink RX11 231 yX8_setSpot ∈ lw_tbl := (im_10 (i := 18) rfl)
theorem ml_X11_235 : Cond.methodLink RX11 235 yX8_addKnobs ∈ lw_tbl := (im_7 (i := 47) rfl)
theorem ml_X11_248 : Cond.methodLink RX11 248 yX11_needWithin ∈ lw_tbl := (im_10 (i := 19) rfl)
theorem ml_X11_252 : Cond.methodLink RX11 252 yX11_lookAhead ∈ lw_tbl := (im_7 (i := 50) rfl)
theorem ml_X11_255 : Cond.methodLink RX11 255 yX11_needWhat ∈ lw_tbl := (im_10 (i := 21) rfl)
theorem ml_X11_337 : Cond.methodLink RX11 337 yX11_drawAhead ∈ lw_tbl := (im_11 (i := 0) rfl)
theorem ml_X11_343 : Cond.methodLink RX11 343 yX8_copyFrom ∈ lw_tbl := (im_7 (i := 52) rfl)
theorem ml_X11_360 : Cond.methodLink RX11 360 yX3_draw ∈ lw_tbl := (im_11 (i := 2) rfl)
theorem ml_X11_363 : Cond.methodLink RX11 363 yX8_addBlue ∈ lw_tbl := (im_11 (i := 6) rfl)
theorem ml_X1_25 : Cond.methodLink RX1 25 yX1_begin ∈ lw_tbl := (im_1 (i := 52) rfl)
theorem ml_X1_28 : Cond.methodLink RX1 28 yX1_shape ∈ lw_tbl := (im_1 (i := 55) rfl)
theorem ml_X1_45 : Cond.methodLink RX1 45 yX5_clear ∈ lw_tbl := (im_2 (i := 6) rfl)
theorem ml_X1_54 : Cond.methodLink RX1 54 yX1_cells ∈ lw_tbl := (im_1 (i := 58) rfl)
theorem ml_X1_58 : Cond.methodLink RX1 58 yX1_bitsBeside ∈ lw_tbl := (im_2 (i := 1) rfl)
theorem ml_X1_62 : Cond.methodLink RX1 62 yX1_columnOf ∈ lw_tbl := (im_2 (i := 3) rfl)
theorem ml_X5_32 : Cond.methodLink RX5 32 yX5_joined ∈ lw_tbl := (im_7 (i := 17) rfl)
theorem ml_X8_36 : Cond.methodLink RX8 36 yX8_begin ∈ lw_tbl := (im_2 (i := 46) rfl)
theorem ml_X8_70 : Cond.methodLink RX8 70 yX8_isPegged ∈ lw_tbl := (im_7 (i := 26) rfl)
theorem ml_X8_79 : Cond.methodLink RX8 79 yX8_isResting ∈ lw_tbl := (im_5 (i := 49) rfl)
theorem ml_X8_82 : Cond.methodLink RX8 82 yX8_swish ∈ lw_tbl := (im_5 (i := 52) rfl)
theorem ml_X8_86 : Cond.methodLink RX8 86 yX8_markOverdone ∈ lw_tbl := (im_7 (i := 36) rfl)
theorem ml_X8_95 : Cond.methodLink RX8 95 yX8_fade ∈ lw_tbl := (im_7 (i := 43) rfl)
theorem ml_X8_101 : Cond.methodLink RX8 101 yJ6_bitCount_0f7a4 ∈ lw_tbl := (im_7 (i := 38) rfl)
theorem ml_X8_107 : Cond.methodLink RX8 107 yX8_fadeOf ∈ lw_tbl := (im_7 (i := 45) rfl)
theorem ml_X8_114 : Cond.methodLink RX8 114 yX5_isTold ∈ lw_tbl := (im_5 (i := 58) rfl)
theorem ml_X8_118 : Cond.methodLink RX8 118 yX8_blueOf ∈ lw_tbl := (im_7 (i := 8) rfl)
theorem ml_X8_121 : Cond.methodLink RX8 121 yX8_setValues ∈ lw_tbl := (im_7 (i := 3) rfl)
theorem ml_X8_125 : Cond.methodLink RX8 125 yX5_worth ∈ lw_tbl := (im_7 (i := 14) rfl)
theorem ml_X8_129 : Cond.methodLink RX8 129 yX8_dyeOf ∈ lw_tbl := (im_5 (i := 55) rfl)
theorem ml_X8_132 : Cond.methodLink RX8 132 yX8_spotOf ∈ lw_tbl := (im_7 (i := 0) rfl)
theorem ml_X8_135 : Cond.methodLink RX8 135 yX8_addBlue ∈ lw_tbl := (im_7 (i := 23) rfl)
theorem ml_X8_138 : Cond.methodLink RX8 138 yX1_isOld ∈ lw_tbl := (im_7 (i := 29) rfl)
theorem ml_X8_141 : Cond.methodLink RX8 141 yX8_drip ∈ lw_tbl := (im_7 (i := 32) rfl)
theorem ml_X8_144 : Cond.methodLink RX8 144 yX1_besideBits ∈ lw_tbl := (im_7 (i := 5) rfl)
theorem ml_X8_147 : Cond.methodLink RX8 147 yX1_cells ∈ lw_tbl := (im_7 (i := 34) rfl)
theorem ml_X8_151 : Cond.methodLink RX8 151 yX1_columnOf ∈ lw_tbl := (im_7 (i := 35) rfl)
theorem ml_X8_157 : Cond.methodLink RX8 157 yX8_skillOf ∈ lw_tbl := (im_6 (i := 1) rfl)
theorem ml_X8_160 : Cond.methodLink RX8 160 yX1_rowOf ∈ lw_tbl := (im_7 (i := 11) rfl)
theorem ml_X12_143 : Cond.methodLink RX12 143 yX12_begin ∈ lw_tbl := (im_11 (i := 10) rfl)
theorem mt_X8_58 : ∀ w ∈ [Cond.methodLink RX8 58 arraycopyName, Cond.native arraycopyName, Cond.static arraycopyName, Cond.initialized "java/lang/System"], w ∈ lw_tbl := List.forall_mem_cons.mpr ⟨(im_5 (i := 45) rfl), List.forall_mem_cons.mpr ⟨(im_5 (i := 44) rfl), List.forall_mem_cons.mpr ⟨(im_5 (i := 43) rfl), List.forall_mem_cons.mpr ⟨(im_1 (i := 21) rfl), fun _ h => absurd h List.not_mem_nil⟩⟩⟩⟩
theorem mt_X8_64 : ∀ w ∈ [Cond.methodLink RX8 64 Lib.Math.min.name, Cond.static Lib.Math.min.name, Cond.initialized "java/lang/Math", Cond.code Lib.Math.min.name Lib.Math.min.code 2 (some .int)], w ∈ lw_tbl := List.forall_mem_cons.mpr ⟨(im_7 (i := 19) rfl), List.forall_mem_cons.mpr ⟨(im_7 (i := 20) rfl), List.forall_mem_cons.mpr ⟨(im_1 (i := 20) rfl), List.forall_mem_cons.mpr ⟨cw_617, fun _ h => absurd h List.not_mem_nil⟩⟩⟩⟩
theorem mt_X8_92 : ∀ w ∈ [Cond.methodLink RX8 92 Lib.Math.max.name, Cond.static Lib.Math.max.name, Cond.initialized "java/lang/Math", Cond.code Lib.Math.max.name Lib.Math.max.code 2 (some .int)], w ∈ lw_tbl := List.forall_mem_cons.mpr ⟨(im_7 (i := 21) rfl), List.forall_mem_cons.mpr ⟨(im_7 (i := 22) rfl), List.forall_mem_cons.mpr ⟨(im_1 (i := 20) rfl), List.forall_mem_cons.mpr ⟨cw_620, fun _ h => absurd h List.not_mem_nil⟩⟩⟩⟩
theorem cl_X3_13 : Cond.constant RX3 13 (1103515245 : Int32) ∈ lw_tbl := (im_11 (i := 5) rfl)
theorem cl_J6_265 : Cond.constant RJ6 265 (1431655765 : Int32) ∈ lw_tbl := (im_7 (i := 40) rfl)
theorem cl_J6_266 : Cond.constant RJ6 266 (858993459 : Int32) ∈ lw_tbl := (im_7 (i := 41) rfl)
theorem cl_J6_267 : Cond.constant RJ6 267 (252645135 : Int32) ∈ lw_tbl := (im_7 (i := 42) rfl)
def txw : List Cond := [(Jvm.Cond.initialized "java/lang/Throwable"), (Jvm.Cond.initialized "java/lang/Exception"), (Jvm.Cond.initialized "java/lang/RuntimeException"), (Jvm.Cond.initialized "java/lang/IllegalArgumentException"), (Jvm.Cond.initialized "java/util/NoSuchElementException"), (Jvm.Cond.methodLink "BlueBag" (1 : Nat) ({ cls := "java/lang/Object", name := "<init>", desc := "()V" } : Jvm.MethodName)), (Jvm.Cond.instanceMethod ({ cls := "java/lang/Object", name := "<init>", desc := "()V" } : Jvm.MethodName)), (Jvm.Cond.code ({ cls := "java/lang/Object", name := "<init>", desc := "()V" } : Jvm.MethodName) object_method_1_code (1 : Nat) (Option.none : Option Jvm.ClassFile.FieldType)), (Jvm.Cond.classLink "BlueBag" (96 : Nat) "java/lang/IllegalArgumentException"), (Jvm.Cond.instantiable "java/lang/IllegalArgumentException" (6 : Nat)), (Jvm.Cond.castable "java/lang/IllegalArgumentException" "java/lang/IllegalArgumentException"), (Jvm.Cond.declares ({ cls := "java/lang/RuntimeException", name := "<init>", desc := "()V" } : Jvm.MethodName)), (Jvm.Cond.declares ({ cls := "java/lang/RuntimeException", name := "<init>", desc := "(Ljava/lang/String;)V" } : Jvm.MethodName)), (Jvm.Cond.declares ({ cls := "java/lang/Exception", name := "<init>", desc := "()V" } : Jvm.MethodName)), (Jvm.Cond.declares ({ cls := "java/lang/Exception", name := "<init>", desc := "(Ljava/lang/String;)V" } : Jvm.MethodName)), (Jvm.Cond.declares ({ cls := "java/lang/Throwable", name := "<init>", desc := "()V" } : Jvm.MethodName)), (Jvm.Cond.declares ({ cls := "java/lang/Throwable", name := "<init>", desc := "(Ljava/lang/String;)V" } : Jvm.MethodName)), (Jvm.Cond.selects "java/lang/IllegalArgumentException" ({ cls := "java/lang/Throwable", name := "fillInStackTrace", desc := "(I)Ljava/lang/Throwable;" } : Jvm.MethodName) ({ cls := "java/lang/Throwable", name := "fillInStackTrace", desc := "(I)Ljava/lang/Throwable;" } : Jvm.MethodName)), (Jvm.Cond.selects "java/lang/IllegalArgumentException" ({ cls := "java/lang/Throwable", name := "fillInStackTrace", desc := "()Ljava/lang/Throwable;" } : Jvm.MethodName) ({ cls := "java/lang/Throwable", name := "fillInStackTrace", desc := "()Ljava/lang/Throwable;" } : Jvm.MethodName)), (Jvm.Cond.lays "java/lang/IllegalArgumentException" "java/lang/Throwable" "cause" "Ljava/lang/Throwable;"), (Jvm.Cond.lays "java/lang/Throwable" "java/lang/Throwable" "cause" "Ljava/lang/Throwable;"), (Jvm.Cond.lays "java/lang/IllegalArgumentException" "java/lang/Throwable" "stackTrace" "[Ljava/lang/StackTraceElement;"), (Jvm.Cond.lays "java/lang/Throwable" "java/lang/Throwable" "stackTrace" "[Ljava/lang/StackTraceElement;"), (Jvm.Cond.lays "java/lang/IllegalArgumentException" "java/lang/Throwable" "suppressedExceptions" "Ljava/util/List;"), (Jvm.Cond.lays "java/lang/Throwable" "java/lang/Throwable" "suppressedExceptions" "Ljava/util/List;"), (Jvm.Cond.lays "java/lang/IllegalArgumentException" "java/lang/Throwable" "detailMessage" "Ljava/lang/String;"), (Jvm.Cond.lays "java/lang/Throwable" "java/lang/Throwable" "detailMessage" "Ljava/lang/String;"), (Jvm.Cond.lays "java/lang/IllegalArgumentException" "java/lang/Throwable" "backtrace" "Ljava/lang/Object;"), (Jvm.Cond.lays "java/lang/Throwable" "java/lang/Throwable" "backtrace" "Ljava/lang/Object;"), (Jvm.Cond.fieldLink "java/lang/Throwable" (198 : Nat) "java/lang/Throwable" "backtrace" "Ljava/lang/Object;"), (Jvm.Cond.superclass "java/lang/Throwable" "java/lang/Object"), (Jvm.Cond.instanceMethod ({ cls := "java/lang/Throwable", name := "<init>", desc := "()V" } : Jvm.MethodName)), (Jvm.Cond.code ({ cls := "java/lang/Throwable", name := "<init>", desc := "()V" } : Jvm.MethodName) prog_28_method_1_code (1 : Nat) (Option.none : Option Jvm.ClassFile.FieldType)), (Jvm.Cond.methodLink "java/lang/Throwable" (1 : Nat) ({ cls := "java/lang/Object", name := "<init>", desc := "()V" } : Jvm.MethodName)), (Jvm.Cond.fieldLink "java/lang/Throwable" (13 : Nat) "java/lang/Throwable" "UNASSIGNED_STACK" "[Ljava/lang/StackTraceElement;"), (Jvm.Cond.laysStatic "java/lang/Throwable" "UNASSIGNED_STACK" "[Ljava/lang/StackTraceElement;"), (Jvm.Cond.fieldLink "java/lang/Throwable" (20 : Nat) "java/lang/Throwable" "SUPPRESSED_SENTINEL" "Ljava/util/List;"), (Jvm.Cond.laysStatic "java/lang/Throwable" "SUPPRESSED_SENTINEL" "Ljava/util/List;"), (Jvm.Cond.methodLink "java/lang/Throwable" (27 : Nat) ({ cls := "java/lang/Throwable", name := "fillInStackTrace", desc := "()Ljava/lang/Throwable;" } : Jvm.MethodName)), (Jvm.Cond.instanceMethod ({ cls := "java/lang/Throwable", name := "fillInStackTrace", desc := "()Ljava/lang/Throwable;" } : Jvm.MethodName)), (Jvm.Cond.sameMethod "java/lang/Throwable" "java/lang/Throwable" "fillInStackTrace" "()Ljava/lang/Throwable;"), (Jvm.Cond.selects "java/util/NoSuchElementException" ({ cls := "java/lang/Throwable", name := "fillInStackTrace", desc := "()Ljava/lang/Throwable;" } : Jvm.MethodName) ({ cls := "java/lang/Throwable", name := "fillInStackTrace", desc := "()Ljava/lang/Throwable;" } : Jvm.MethodName)), (Jvm.Cond.codeSync ({ cls := "java/lang/Throwable", name := "fillInStackTrace", desc := "()Ljava/lang/Throwable;" } : Jvm.MethodName) prog_28_method_18_code (1 : Nat) (Option.some (Jvm.ClassFile.FieldType.object "java/lang/Throwable"))), (Jvm.Cond.methodLink "java/lang/Throwable" (202 : Nat) ({ cls := "java/lang/Throwable", name := "fillInStackTrace", desc := "(I)Ljava/lang/Throwable;" } : Jvm.MethodName)), (Jvm.Cond.privateMethod ({ cls := "java/lang/Throwable", name := "fillInStackTrace", desc := "(I)Ljava/lang/Throwable;" } : Jvm.MethodName)), (Jvm.Cond.instanceMethod ({ cls := "java/lang/Throwable", name := "fillInStackTrace", desc := "(I)Ljava/lang/Throwable;" } : Jvm.MethodName)), (Jvm.Cond.instantiable "java/lang/Throwable" (6 : Nat)), (Jvm.Cond.native ({ cls := "java/lang/Throwable", name := "fillInStackTrace", desc := "(I)Ljava/lang/Throwable;" } : Jvm.MethodName)), (Jvm.Cond.methodLink "BlueBag" (98 : Nat) ({ cls := "java/lang/IllegalArgumentException", name := "<init>", desc := "()V" } : Jvm.MethodName)), (Jvm.Cond.instanceMethod ({ cls := "java/lang/IllegalArgumentException", name := "<init>", desc := "()V" } : Jvm.MethodName)), (Jvm.Cond.code ({ cls := "java/lang/IllegalArgumentException", name := "<init>", desc := "()V" } : Jvm.MethodName) prog_19_method_1_code (1 : Nat) (Option.none : Option Jvm.ClassFile.FieldType)), (Jvm.Cond.methodLink "java/lang/IllegalArgumentException" (1 : Nat) ({ cls := "java/lang/RuntimeException", name := "<init>", desc := "()V" } : Jvm.MethodName)), (Jvm.Cond.instanceMethod ({ cls := "java/lang/RuntimeException", name := "<init>", desc := "()V" } : Jvm.MethodName)), (Jvm.Cond.code ({ cls := "java/lang/RuntimeException", name := "<init>", desc := "()V" } : Jvm.MethodName) prog_23_method_1_code (1 : Nat) (Option.none : Option Jvm.ClassFile.FieldType)), (Jvm.Cond.methodLink "java/lang/RuntimeException" (1 : Nat) ({ cls := "java/lang/Exception", name := "<init>", desc := "()V" } : Jvm.MethodName)), (Jvm.Cond.instanceMethod ({ cls := "java/lang/Exception", name := "<init>", desc := "()V" } : Jvm.MethodName)), (Jvm.Cond.code ({ cls := "java/lang/Exception", name := "<init>", desc := "()V" } : Jvm.MethodName) prog_18_method_1_code (1 : Nat) (Option.none : Option Jvm.ClassFile.FieldType)), (Jvm.Cond.methodLink "java/lang/Exception" (1 : Nat) ({ cls := "java/lang/Throwable", name := "<init>", desc := "()V" } : Jvm.MethodName)), (Jvm.Cond.fieldLink "java/lang/Throwable" (198 : Nat) "java/lang/Throwable" "backtrace" "Ljava/lang/Object;"), (Jvm.Cond.fieldLink "java/lang/Throwable" (7 : Nat) "java/lang/Throwable" "cause" "Ljava/lang/Throwable;"), (Jvm.Cond.fieldLink "java/lang/Throwable" (17 : Nat) "java/lang/Throwable" "stackTrace" "[Ljava/lang/StackTraceElement;"), (Jvm.Cond.fieldLink "java/lang/Throwable" (24 : Nat) "java/lang/Throwable" "suppressedExceptions" "Ljava/util/List;"), (Jvm.Cond.soleField "java/lang/Throwable" "backtrace"), (Jvm.Cond.soleField "java/lang/Throwable" "detailMessage"), (Jvm.Cond.soleField "java/lang/Throwable" "cause"), (Jvm.Cond.soleField "java/lang/Throwable" "stackTrace"), (Jvm.Cond.lays "java/lang/IllegalArgumentException" "java/lang/Throwable" "depth" "I"), (Jvm.Cond.soleField "java/lang/Throwable" "depth"), (Jvm.Cond.soleField "java/lang/Throwable" "suppressedExceptions"), (Jvm.Cond.superclass "java/lang/IllegalArgumentException" "java/lang/RuntimeException"), (Jvm.Cond.classLink "BlueBag" (176 : Nat) "java/util/NoSuchElementException"), (Jvm.Cond.instantiable "java/util/NoSuchElementException" (6 : Nat)), (Jvm.Cond.castable "java/util/NoSuchElementException" "java/util/NoSuchElementException"), (Jvm.Cond.selects "java/util/NoSuchElementException" ({ cls := "java/lang/Throwable", name := "fillInStackTrace", desc := "(I)Ljava/lang/Throwable;" } : Jvm.MethodName) ({ cls := "java/lang/Throwable", name := "fillInStackTrace", desc := "(I)Ljava/lang/Throwable;" } : Jvm.MethodName)), (Jvm.Cond.lays "java/util/NoSuchElementException" "java/lang/Throwable" "cause" "Ljava/lang/Throwable;"), (Jvm.Cond.lays "java/util/NoSuchElementException" "java/lang/Throwable" "stackTrace" "[Ljava/lang/StackTraceElement;"), (Jvm.Cond.lays "java/util/NoSuchElementException" "java/lang/Throwable" "suppressedExceptions" "Ljava/util/List;"), (Jvm.Cond.lays "java/util/NoSuchElementException" "java/lang/Throwable" "detailMessage" "Ljava/lang/String;"), (Jvm.Cond.lays "java/util/NoSuchElementException" "java/lang/Throwable" "backtrace" "Ljava/lang/Object;"), (Jvm.Cond.methodLink "BlueBag" (178 : Nat) ({ cls := "java/util/NoSuchElementException", name := "<init>", desc := "()V" } : Jvm.MethodName)), (Jvm.Cond.instanceMethod ({ cls := "java/util/NoSuchElementException", name := "<init>", desc := "()V" } : Jvm.MethodName)), (Jvm.Cond.code ({ cls := "java/util/NoSuchElementException", name := "<init>", desc := "()V" } : Jvm.MethodName) prog_31_method_1_code (1 : Nat) (Option.none : Option Jvm.ClassFile.FieldType)), (Jvm.Cond.methodLink "java/util/NoSuchElementException" (1 : Nat) ({ cls := "java/lang/RuntimeException", name := "<init>", desc := "()V" } : Jvm.MethodName)), (Jvm.Cond.lays "java/util/NoSuchElementException" "java/lang/Throwable" "depth" "I"), (Jvm.Cond.superclass "java/util/NoSuchElementException" "java/lang/RuntimeException"), (Jvm.Cond.sameMethod "java/lang/Throwable" "java/lang/Throwable" "fillInStackTrace" "(I)Ljava/lang/Throwable;"), (Jvm.Cond.castable "java/lang/IllegalArgumentException" "java/lang/Object"), (Jvm.Cond.castable "java/util/NoSuchElementException" "java/lang/Object"), (Jvm.Cond.castable "java/lang/Throwable" "java/lang/Object")]
theorem txw_in : ∀ w ∈ txw, w ∈ lw_tbl := List.forall_mem_cons.mpr ⟨(im_1 (i := 13) rfl), List.forall_mem_cons.mpr ⟨(im_1 (i := 14) rfl), List.forall_mem_cons.mpr ⟨(im_1 (i := 15) rfl), List.forall_mem_cons.mpr ⟨(im_1 (i := 16) rfl), List.forall_mem_cons.mpr ⟨(im_1 (i := 22) rfl), List.forall_mem_cons.mpr ⟨(im_1 (i := 24) rfl), List.forall_mem_cons.mpr ⟨(im_1 (i := 25) rfl), List.forall_mem_cons.mpr ⟨cw_141, List.forall_mem_cons.mpr ⟨(im_7 (i := 55) rfl), List.forall_mem_cons.mpr ⟨(im_7 (i := 56) rfl), List.forall_mem_cons.mpr ⟨(im_7 (i := 57) rfl), List.forall_mem_cons.mpr ⟨(im_7 (i := 58) rfl), List.forall_mem_cons.mpr ⟨(im_7 (i := 59) rfl), List.forall_mem_cons.mpr ⟨(im_8 (i := 0) rfl), List.forall_mem_cons.mpr ⟨(im_8 (i := 1) rfl), List.forall_mem_cons.mpr ⟨(im_8 (i := 2) rfl), List.forall_mem_cons.mpr ⟨(im_8 (i := 3) rfl), List.forall_mem_cons.mpr ⟨(im_8 (i := 4) rfl), List.forall_mem_cons.mpr ⟨(im_8 (i := 5) rfl), List.forall_mem_cons.mpr ⟨(im_8 (i := 6) rfl), List.forall_mem_cons.mpr ⟨(im_8 (i := 7) rfl), List.forall_mem_cons.mpr ⟨(im_8 (i := 8) rfl), List.forall_mem_cons.mpr ⟨(im_8 (i := 9) rfl), List.forall_mem_cons.mpr ⟨(im_8 (i := 10) rfl), List.forall_mem_cons.mpr ⟨(im_8 (i := 11) rfl), List.forall_mem_cons.mpr ⟨(im_8 (i := 12) rfl), List.forall_mem_cons.mpr ⟨(im_8 (i := 13) rfl), List.forall_mem_cons.mpr ⟨(im_8 (i := 14) rfl), List.forall_mem_cons.mpr ⟨(im_8 (i := 15) rfl), List.forall_mem_cons.mpr ⟨(im_8 (i := 16) rfl), List.forall_mem_cons.mpr ⟨(im_8 (i := 17) rfl), List.forall_mem_cons.mpr ⟨(im_8 (i := 18) rfl), List.forall_mem_cons.mpr ⟨cw_776, List.forall_mem_cons.mpr ⟨(im_8 (i := 19) rfl), List.forall_mem_cons.mpr ⟨(im_8 (i := 20) rfl), List.forall_mem_cons.mpr ⟨(im_8 (i := 21) rfl), List.forall_mem_cons.mpr ⟨(im_8 (i := 22) rfl), List.forall_mem_cons.mpr ⟨(im_8 (i := 23) rfl), List.forall_mem_cons.mpr ⟨(im_8 (i := 24) rfl), List.forall_mem_cons.mpr ⟨(im_8 (i := 25) rfl), List.forall_mem_cons.mpr ⟨(im_8 (i := 26) rfl), List.forall_mem_cons.mpr ⟨(im_8 (i := 27) rfl), List.forall_mem_cons.mpr ⟨cw_786, List.forall_mem_cons.mpr ⟨(im_8 (i := 28) rfl), List.forall_mem_cons.mpr ⟨(im_8 (i := 29) rfl), List.forall_mem_cons.mpr ⟨(im_8 (i := 30) rfl), List.forall_mem_cons.mpr ⟨(im_8 (i := 31) rfl), List.forall_mem_cons.mpr ⟨(im_8 (i := 32) rfl), List.forall_mem_cons.mpr ⟨(im_8 (i := 33) rfl), List.forall_mem_cons.mpr ⟨(im_8 (i := 34) rfl), List.forall_mem_cons.mpr ⟨cw_794, List.forall_mem_cons.mpr ⟨(im_8 (i := 35) rfl), List.forall_mem_cons.mpr ⟨(im_8 (i := 36) rfl), List.forall_mem_cons.mpr ⟨cw_797, List.forall_mem_cons.mpr ⟨(im_8 (i := 37) rfl), List.forall_mem_cons.mpr ⟨(im_8 (i := 38) rfl), List.forall_mem_cons.mpr ⟨cw_800, List.forall_mem_cons.mpr ⟨(im_8 (i := 39) rfl), List.forall_mem_cons.mpr ⟨(im_8 (i := 40) rfl), List.forall_mem_cons.mpr ⟨(im_8 (i := 41) rfl), List.forall_mem_cons.mpr ⟨(im_8 (i := 42) rfl), List.forall_mem_cons.mpr ⟨(im_8 (i := 43) rfl), List.forall_mem_cons.mpr ⟨(im_8 (i := 44) rfl), List.forall_mem_cons.mpr ⟨(im_8 (i := 45) rfl), List.forall_mem_cons.mpr ⟨(im_8 (i := 46) rfl), List.forall_mem_cons.mpr ⟨(im_8 (i := 47) rfl), List.forall_mem_cons.mpr ⟨(im_8 (i := 48) rfl), List.forall_mem_cons.mpr ⟨(im_8 (i := 49) rfl), List.forall_mem_cons.mpr ⟨(im_8 (i := 50) rfl), List.forall_mem_cons.mpr ⟨(im_8 (i := 51) rfl), List.forall_mem_cons.mpr ⟨(im_10 (i := 4) rfl), List.forall_mem_cons.mpr ⟨(im_10 (i := 5) rfl), List.forall_mem_cons.mpr ⟨(im_10 (i := 6) rfl), List.forall_mem_cons.mpr ⟨(im_10 (i := 7) rfl), List.forall_mem_cons.mpr ⟨(im_10 (i := 8) rfl), List.forall_mem_cons.mpr ⟨(im_10 (i := 9) rfl), List.forall_mem_cons.mpr ⟨(im_10 (i := 10) rfl), List.forall_mem_cons.mpr ⟨(im_10 (i := 11) rfl), List.forall_mem_cons.mpr ⟨(im_10 (i := 12) rfl), List.forall_mem_cons.mpr ⟨(im_10 (i := 13) rfl), List.forall_mem_cons.mpr ⟨(im_10 (i := 14) rfl), List.forall_mem_cons.mpr ⟨cw_1098, List.forall_mem_cons.mpr ⟨(im_10 (i := 15) rfl), List.forall_mem_cons.mpr ⟨(im_10 (i := 16) rfl), List.forall_mem_cons.mpr ⟨(im_10 (i := 17) rfl), List.forall_mem_cons.mpr ⟨(im_14 (i := 0) rfl), List.forall_mem_cons.mpr ⟨(im_14 (i := 1) rfl), List.forall_mem_cons.mpr ⟨(im_14 (i := 2) rfl), List.forall_mem_cons.mpr ⟨(im_14 (i := 3) rfl), fun _ h => absurd h List.not_mem_nil⟩⟩⟩⟩⟩⟩⟩⟩⟩⟩⟩⟩⟩⟩⟩⟩⟩⟩⟩⟩⟩⟩⟩⟩⟩⟩⟩⟩⟩⟩⟩⟩⟩⟩⟩⟩⟩⟩⟩⟩⟩⟩⟩⟩⟩⟩⟩⟩⟩⟩⟩⟩⟩⟩⟩⟩⟩⟩⟩⟩⟩⟩⟩⟩⟩⟩⟩⟩⟩⟩⟩⟩⟩⟩⟩⟩⟩⟩⟩⟩⟩⟩⟩⟩⟩⟩⟩⟩⟩
theorem tw_X11_96_98 : TW RX11 96 98 (exNm 2) ["java/lang/RuntimeException", "java/lang/Exception"] := ⟨fun w h => txw_in w ((by decide +kernel : ∀ w ∈ Cond.classLink RX11 96 (exNm 2) :: Cond.initialized (exNm 2) :: vx_at0 RX11 98 (exNm 2) ["java/lang/RuntimeException", "java/lang/Exception"], w ∈ txw) w h), by decide +kernel, by decide +kernel, by decide +kernel, rfl⟩
theorem tw_X11_176_178 : TW RX11 176 178 (exNm 1) ["java/lang/RuntimeException", "java/lang/Exception"] := ⟨fun w h => txw_in w ((by decide +kernel : ∀ w ∈ Cond.classLink RX11 176 (exNm 1) :: Cond.initialized (exNm 1) :: vx_at0 RX11 178 (exNm 1) ["java/lang/RuntimeException", "java/lang/Exception"], w ∈ txw) w h), by decide +kernel, by decide +kernel, by decide +kernel, rfl⟩
theorem ff_X11_10 : ∃ q : vw_C, CLS 11 q ∧ 0 < q.2.2 ∧ Cond.fieldLink RX11 10 (q.2.1 0).1 (q.2.1 0).2.1 (q.2.1 0).2.2.1 ∈ lw_tbl ∧ (q.2.1 0).1 = RX11 := ⟨_, cls_11, by decide, (im_5 (i := 17) rfl), rfl⟩
theorem ff_X11_19 : ∃ q : vw_C, CLS 11 q ∧ 1 < q.2.2 ∧ Cond.fieldLink RX11 19 (q.2.1 1).1 (q.2.1 1).2.1 (q.2.1 1).2.2.1 ∈ lw_tbl ∧ (q.2.1 1).1 = RX11 := ⟨_, cls_11, by decide, (im_5 (i := 18) rfl), rfl⟩
theorem ff_X11_28 : ∃ q : vw_C, CLS 11 q ∧ 2 < q.2.2 ∧ Cond.fieldLink RX11 28 (q.2.1 2).1 (q.2.1 2).2.1 (q.2.1 2).2.2.1 ∈ lw_tbl ∧ (q.2.1 2).1 = RX11 := ⟨_, cls_11, by decide, (im_5 (i := 19) rfl), rfl⟩
theorem ff_X11_37 : ∃ q : vw_C, CLS 11 q ∧ 3 < q.2.2 ∧ Cond.fieldLink RX11 37 (q.2.1 3).1 (q.2.1 3).2.1 (q.2.1 3).2.2.1 ∈ lw_tbl ∧ (q.2.1 3).1 = RX11 := ⟨_, cls_11, by decide, (im_5 (i := 20) rfl), rfl⟩
theorem ff_X11_41 : ∃ q : vw_C, CLS 11 q ∧ 4 < q.2.2 ∧ Cond.fieldLink RX11 41 (q.2.1 4).1 (q.2.1 4).2.1 (q.2.1 4).2.2.1 ∈ lw_tbl ∧ (q.2.1 4).1 = RX11 := ⟨_, cls_11, by decide, (im_5 (i := 21) rfl), rfl⟩
theorem ff_X11_47 : ∃ q : vw_C, CLS 11 q ∧ 5 < q.2.2 ∧ Cond.fieldLink RX11 47 (q.2.1 5).1 (q.2.1 5).2.1 (q.2.1 5).2.2.1 ∈ lw_tbl ∧ (q.2.1 5).1 = RX11 := ⟨_, cls_11, by decide, (im_5 (i := 22) rfl), rfl⟩
theorem ff_X11_59 : ∃ q : vw_C, CLS 11 q ∧ 6 < q.2.2 ∧ Cond.fieldLink RX11 59 (q.2.1 6).1 (q.2.1 6).2.1 (q.2.1 6).2.2.1 ∈ lw_tbl ∧ (q.2.1 6).1 = RX11 := ⟨_, cls_11, by decide, (im_5 (i := 23) rfl), rfl⟩
theorem ff_X11_66 : ∃ q : vw_C, CLS 11 q ∧ 7 < q.2.2 ∧ Cond.fieldLink RX11 66 (q.2.1 7).1 (q.2.1 7).2.1 (q.2.1 7).2.2.1 ∈ lw_tbl ∧ (q.2.1 7).1 = RX11 := ⟨_, cls_11, by decide, (im_5 (i := 24) rfl), rfl⟩
theorem ff_X11_70 : ∃ q : vw_C, CLS 11 q ∧ 8 < q.2.2 ∧ Cond.fieldLink RX11 70 (q.2.1 8).1 (q.2.1 8).2.1 (q.2.1 8).2.2.1 ∈ lw_tbl ∧ (q.2.1 8).1 = RX11 := ⟨_, cls_11, by decide, (im_5 (i := 25) rfl), rfl⟩
theorem ff_X11_74 : ∃ q : vw_C, CLS 11 q ∧ 9 < q.2.2 ∧ Cond.fieldLink RX11 74 (q.2.1 9).1 (q.2.1 9).2.1 (q.2.1 9).2.2.1 ∈ lw_tbl ∧ (q.2.1 9).1 = RX11 := ⟨_, cls_11, by decide, (im_5 (i := 26) rfl), rfl⟩
theorem ff_X11_77 : ∃ q : vw_C, CLS 11 q ∧ 10 < q.2.2 ∧ Cond.fieldLink RX11 77 (q.2.1 10).1 (q.2.1 10).2.1 (q.2.1 10).2.2.1 ∈ lw_tbl ∧ (q.2.1 10).1 = RX11 := ⟨_, cls_11, by decide, (im_5 (i := 27) rfl), rfl⟩
theorem ff_X0_11 : ∃ q : vw_C, CLS 0 q ∧ 0 < q.2.2 ∧ Cond.fieldLink RX0 11 (q.2.1 0).1 (q.2.1 0).2.1 (q.2.1 0).2.2.1 ∈ lw_tbl ∧ (q.2.1 0).1 = RX0 := ⟨_, cls_0, by decide, (im_4 (i := 33) rfl), rfl⟩
theorem ff_X1_9 : ∃ q : vw_C, CLS 1 q ∧ 6 < q.2.2 ∧ Cond.fieldLink RX1 9 (q.2.1 6).1 (q.2.1 6).2.1 (q.2.1 6).2.2.1 ∈ lw_tbl ∧ (q.2.1 6).1 = RX1 := ⟨_, cls_1, by decide, (im_2 (i := 19) rfl), rfl⟩
theorem ff_X1_18 : ∃ q : vw_C, CLS 1 q ∧ 7 < q.2.2 ∧ Cond.fieldLink RX1 18 (q.2.1 7).1 (q.2.1 7).2.1 (q.2.1 7).2.2.1 ∈ lw_tbl ∧ (q.2.1 7).1 = RX1 := ⟨_, cls_1, by decide, (im_2 (i := 20) rfl), rfl⟩
theorem ff_X1_22 : ∃ q : vw_C, CLS 1 q ∧ 8 < q.2.2 ∧ Cond.fieldLink RX1 22 (q.2.1 8).1 (q.2.1 8).2.1 (q.2.1 8).2.2.1 ∈ lw_tbl ∧ (q.2.1 8).1 = RX1 := ⟨_, cls_1, by decide, (im_2 (i := 23) rfl), rfl⟩
theorem ff_X2_12 : ∃ q : vw_C, CLS 2 q ∧ 2 < q.2.2 ∧ Cond.fieldLink RX2 12 (q.2.1 2).1 (q.2.1 2).2.1 (q.2.1 2).2.2.1 ∈ lw_tbl ∧ (q.2.1 2).1 = RX2 := ⟨_, cls_2, by decide, (im_4 (i := 14) rfl), rfl⟩
theorem ff_X2_23 : ∃ q : vw_C, CLS 2 q ∧ 3 < q.2.2 ∧ Cond.fieldLink RX2 23 (q.2.1 3).1 (q.2.1 3).2.1 (q.2.1 3).2.2.1 ∈ lw_tbl ∧ (q.2.1 3).1 = RX2 := ⟨_, cls_2, by decide, (im_4 (i := 15) rfl), rfl⟩
theorem ff_X2_32 : ∃ q : vw_C, CLS 2 q ∧ 0 < q.2.2 ∧ Cond.fieldLink RX2 32 (q.2.1 0).1 (q.2.1 0).2.1 (q.2.1 0).2.2.1 ∈ lw_tbl ∧ (q.2.1 0).1 = RX2 := ⟨_, cls_2, by decide, (im_4 (i := 12) rfl), rfl⟩
theorem ff_X2_45 : ∃ q : vw_C, CLS 2 q ∧ 1 < q.2.2 ∧ Cond.fieldLink RX2 45 (q.2.1 1).1 (q.2.1 1).2.1 (q.2.1 1).2.2.1 ∈ lw_tbl ∧ (q.2.1 1).1 = RX2 := ⟨_, cls_2, by decide, (im_4 (i := 13) rfl), rfl⟩
theorem ff_X4_12 : ∃ q : vw_C, CLS 4 q ∧ 1 < q.2.2 ∧ Cond.fieldLink RX4 12 (q.2.1 1).1 (q.2.1 1).2.1 (q.2.1 1).2.2.1 ∈ lw_tbl ∧ (q.2.1 1).1 = RX4 := ⟨_, cls_4, by decide, (im_4 (i := 40) rfl), rfl⟩
theorem ff_X4_18 : ∃ q : vw_C, CLS 4 q ∧ 2 < q.2.2 ∧ Cond.fieldLink RX4 18 (q.2.1 2).1 (q.2.1 2).2.1 (q.2.1 2).2.2.1 ∈ lw_tbl ∧ (q.2.1 2).1 = RX4 := ⟨_, cls_4, by decide, (im_4 (i := 41) rfl), rfl⟩
theorem ff_X4_22 : ∃ q : vw_C, CLS 4 q ∧ 3 < q.2.2 ∧ Cond.fieldLink RX4 22 (q.2.1 3).1 (q.2.1 3).2.1 (q.2.1 3).2.2.1 ∈ lw_tbl ∧ (q.2.1 3).1 = RX4 := ⟨_, cls_4, by decide, (im_4 (i := 42) rfl), rfl⟩
theorem ff_X4_25 : ∃ q : vw_C, CLS 4 q ∧ 4 < q.2.2 ∧ Cond.fieldLink RX4 25 (q.2.1 4).1 (q.2.1 4).2.1 (q.2.1 4).2.2.1 ∈ lw_tbl ∧ (q.2.1 4).1 = RX4 := ⟨_, cls_4, by decide, (im_4 (i := 43) rfl), rfl⟩
theorem ff_X4_28 : ∃ q : vw_C, CLS 4 q ∧ 5 < q.2.2 ∧ Cond.fieldLink RX4 28 (q.2.1 5).1 (q.2.1 5).2.1 (q.2.1 5).2.2.1 ∈ lw_tbl ∧ (q.2.1 5).1 = RX4 := ⟨_, cls_4, by decide, (im_4 (i := 44) rfl), rfl⟩
theorem ff_X4_36 : ∃ q : vw_C, CLS 4 q ∧ 0 < q.2.2 ∧ Cond.fieldLink RX4 36 (q.2.1 0).1 (q.2.1 0).2.1 (q.2.1 0).2.2.1 ∈ lw_tbl ∧ (q.2.1 0).1 = RX4 := ⟨_, cls_4, by decide, (im_4 (i := 38) rfl), rfl⟩
theorem ff_X5_9 : ∃ q : vw_C, CLS 5 q ∧ 0 < q.2.2 ∧ Cond.fieldLink RX5 9 (q.2.1 0).1 (q.2.1 0).2.1 (q.2.1 0).2.2.1 ∈ lw_tbl ∧ (q.2.1 0).1 = RX5 := ⟨_, cls_5, by decide, (im_1 (i := 45) rfl), rfl⟩
theorem ff_X5_15 : ∃ q : vw_C, CLS 5 q ∧ 1 < q.2.2 ∧ Cond.fieldLink RX5 15 (q.2.1 1).1 (q.2.1 1).2.1 (q.2.1 1).2.2.1 ∈ lw_tbl ∧ (q.2.1 1).1 = RX5 := ⟨_, cls_5, by decide, (im_1 (i := 46) rfl), rfl⟩
theorem ff_X6_9 : ∃ q : vw_C, CLS 6 q ∧ 0 < q.2.2 ∧ Cond.fieldLink RX6 9 (q.2.1 0).1 (q.2.1 0).2.1 (q.2.1 0).2.2.1 ∈ lw_tbl ∧ (q.2.1 0).1 = RX6 := ⟨_, cls_6, by decide, (im_4 (i := 7) rfl), rfl⟩
theorem ff_X7_9 : ∃ q : vw_C, CLS 7 q ∧ 0 < q.2.2 ∧ Cond.fieldLink RX7 9 (q.2.1 0).1 (q.2.1 0).2.1 (q.2.1 0).2.2.1 ∈ lw_tbl ∧ (q.2.1 0).1 = RX7 := ⟨_, cls_7, by decide, (im_4 (i := 59) rfl), rfl⟩
theorem ff_X7_15 : ∃ q : vw_C, CLS 7 q ∧ 1 < q.2.2 ∧ Cond.fieldLink RX7 15 (q.2.1 1).1 (q.2.1 1).2.1 (q.2.1 1).2.2.1 ∈ lw_tbl ∧ (q.2.1 1).1 = RX7 := ⟨_, cls_7, by decide, (im_5 (i := 0) rfl), rfl⟩
theorem ff_X7_18 : ∃ q : vw_C, CLS 7 q ∧ 2 < q.2.2 ∧ Cond.fieldLink RX7 18 (q.2.1 2).1 (q.2.1 2).2.1 (q.2.1 2).2.2.1 ∈ lw_tbl ∧ (q.2.1 2).1 = RX7 := ⟨_, cls_7, by decide, (im_5 (i := 1) rfl), rfl⟩
theorem ff_X7_21 : ∃ q : vw_C, CLS 7 q ∧ 3 < q.2.2 ∧ Cond.fieldLink RX7 21 (q.2.1 3).1 (q.2.1 3).2.1 (q.2.1 3).2.2.1 ∈ lw_tbl ∧ (q.2.1 3).1 = RX7 := ⟨_, cls_7, by decide, (im_5 (i := 2) rfl), rfl⟩
theorem ff_X8_9 : ∃ q : vw_C, CLS 8 q ∧ 1 < q.2.2 ∧ Cond.fieldLink RX8 9 (q.2.1 1).1 (q.2.1 1).2.1 (q.2.1 1).2.2.1 ∈ lw_tbl ∧ (q.2.1 1).1 = RX8 := ⟨_, cls_8, by decide, (im_2 (i := 50) rfl), rfl⟩
theorem ff_X8_15 : ∃ q : vw_C, CLS 8 q ∧ 2 < q.2.2 ∧ Cond.fieldLink RX8 15 (q.2.1 2).1 (q.2.1 2).2.1 (q.2.1 2).2.2.1 ∈ lw_tbl ∧ (q.2.1 2).1 = RX8 := ⟨_, cls_8, by decide, (im_2 (i := 51) rfl), rfl⟩
theorem ff_X8_18 : ∃ q : vw_C, CLS 8 q ∧ 3 < q.2.2 ∧ Cond.fieldLink RX8 18 (q.2.1 3).1 (q.2.1 3).2.1 (q.2.1 3).2.2.1 ∈ lw_tbl ∧ (q.2.1 3).1 = RX8 := ⟨_, cls_8, by decide, (im_2 (i := 52) rfl), rfl⟩
theorem ff_X8_21 : ∃ q : vw_C, CLS 8 q ∧ 4 < q.2.2 ∧ Cond.fieldLink RX8 21 (q.2.1 4).1 (q.2.1 4).2.1 (q.2.1 4).2.2.1 ∈ lw_tbl ∧ (q.2.1 4).1 = RX8 := ⟨_, cls_8, by decide, (im_2 (i := 53) rfl), rfl⟩
theorem ff_X8_24 : ∃ q : vw_C, CLS 8 q ∧ 5 < q.2.2 ∧ Cond.fieldLink RX8 24 (q.2.1 5).1 (q.2.1 5).2.1 (q.2.1 5).2.2.1 ∈ lw_tbl ∧ (q.2.1 5).1 = RX8 := ⟨_, cls_8, by decide, (im_2 (i := 54) rfl), rfl⟩
theorem ff_X8_29 : ∃ q : vw_C, CLS 8 q ∧ 6 < q.2.2 ∧ Cond.fieldLink RX8 29 (q.2.1 6).1 (q.2.1 6).2.1 (q.2.1 6).2.2.1 ∈ lw_tbl ∧ (q.2.1 6).1 = RX8 := ⟨_, cls_8, by decide, (im_2 (i := 55) rfl), rfl⟩
theorem ff_X8_32 : ∃ q : vw_C, CLS 8 q ∧ 0 < q.2.2 ∧ Cond.fieldLink RX8 32 (q.2.1 0).1 (q.2.1 0).2.1 (q.2.1 0).2.2.1 ∈ lw_tbl ∧ (q.2.1 0).1 = RX8 := ⟨_, cls_8, by decide, (im_2 (i := 49) rfl), rfl⟩
theorem ff_X9_9 : ∃ q : vw_C, CLS 9 q ∧ 0 < q.2.2 ∧ Cond.fieldLink RX9 9 (q.2.1 0).1 (q.2.1 0).2.1 (q.2.1 0).2.2.1 ∈ lw_tbl ∧ (q.2.1 0).1 = RX9 := ⟨_, cls_9, by decide, (im_1 (i := 31) rfl), rfl⟩
theorem ff_X10_9 : ∃ q : vw_C, CLS 10 q ∧ 0 < q.2.2 ∧ Cond.fieldLink RX10 9 (q.2.1 0).1 (q.2.1 0).2.1 (q.2.1 0).2.2.1 ∈ lw_tbl ∧ (q.2.1 0).1 = RX10 := ⟨_, cls_10, by decide, (im_3 (i := 22) rfl), rfl⟩
theorem ff_X12_15 : ∃ q : vw_C, CLS 12 q ∧ 0 < q.2.2 ∧ Cond.fieldLink RX12 15 (q.2.1 0).1 (q.2.1 0).2.1 (q.2.1 0).2.2.1 ∈ lw_tbl ∧ (q.2.1 0).1 = RX12 := ⟨_, cls_12, by decide, (im_11 (i := 12) rfl), rfl⟩
theorem ff_X12_31 : ∃ q : vw_C, CLS 12 q ∧ 1 < q.2.2 ∧ Cond.fieldLink RX12 31 (q.2.1 1).1 (q.2.1 1).2.1 (q.2.1 1).2.2.1 ∈ lw_tbl ∧ (q.2.1 1).1 = RX12 := ⟨_, cls_12, by decide, (im_11 (i := 13) rfl), rfl⟩
theorem ff_X12_34 : ∃ q : vw_C, CLS 12 q ∧ 2 < q.2.2 ∧ Cond.fieldLink RX12 34 (q.2.1 2).1 (q.2.1 2).2.1 (q.2.1 2).2.2.1 ∈ lw_tbl ∧ (q.2.1 2).1 = RX12 := ⟨_, cls_12, by decide, (im_11 (i := 14) rfl), rfl⟩
theorem ff_X12_40 : ∃ q : vw_C, CLS 12 q ∧ 5 < q.2.2 ∧ Cond.fieldLink RX12 40 (q.2.1 5).1 (q.2.1 5).2.1 (q.2.1 5).2.2.1 ∈ lw_tbl ∧ (q.2.1 5).1 = RX12 := ⟨_, cls_12, by decide, (im_11 (i := 16) rfl), rfl⟩
theorem ff_X12_44 : ∃ q : vw_C, CLS 12 q ∧ 6 < q.2.2 ∧ Cond.fieldLink RX12 44 (q.2.1 6).1 (q.2.1 6).2.1 (q.2.1 6).2.2.1 ∈ lw_tbl ∧ (q.2.1 6).1 = RX12 := ⟨_, cls_12, by decide, (im_11 (i := 17) rfl), rfl⟩
theorem ff_X12_47 : ∃ q : vw_C, CLS 12 q ∧ 7 < q.2.2 ∧ Cond.fieldLink RX12 47 (q.2.1 7).1 (q.2.1 7).2.1 (q.2.1 7).2.2.1 ∈ lw_tbl ∧ (q.2.1 7).1 = RX12 := ⟨_, cls_12, by decide, (im_11 (i := 18) rfl), rfl⟩
theorem ff_X12_50 : ∃ q : vw_C, CLS 12 q ∧ 8 < q.2.2 ∧ Cond.fieldLink RX12 50 (q.2.1 8).1 (q.2.1 8).2.1 (q.2.1 8).2.2.1 ∈ lw_tbl ∧ (q.2.1 8).1 = RX12 := ⟨_, cls_12, by decide, (im_11 (i := 19) rfl), rfl⟩
theorem ff_X12_53 : ∃ q : vw_C, CLS 12 q ∧ 9 < q.2.2 ∧ Cond.fieldLink RX12 53 (q.2.1 9).1 (q.2.1 9).2.1 (q.2.1 9).2.2.1 ∈ lw_tbl ∧ (q.2.1 9).1 = RX12 := ⟨_, cls_12, by decide, (im_11 (i := 20) rfl), rfl⟩
theorem ff_X12_56 : ∃ q : vw_C, CLS 12 q ∧ 10 < q.2.2 ∧ Cond.fieldLink RX12 56 (q.2.1 10).1 (q.2.1 10).2.1 (q.2.1 10).2.2.1 ∈ lw_tbl ∧ (q.2.1 10).1 = RX12 := ⟨_, cls_12, by decide, (im_11 (i := 21) rfl), rfl⟩
theorem ff_X12_59 : ∃ q : vw_C, CLS 12 q ∧ 11 < q.2.2 ∧ Cond.fieldLink RX12 59 (q.2.1 11).1 (q.2.1 11).2.1 (q.2.1 11).2.2.1 ∈ lw_tbl ∧ (q.2.1 11).1 = RX12 := ⟨_, cls_12, by decide, (im_11 (i := 22) rfl), rfl⟩
theorem ff_X12_62 : ∃ q : vw_C, CLS 12 q ∧ 12 < q.2.2 ∧ Cond.fieldLink RX12 62 (q.2.1 12).1 (q.2.1 12).2.1 (q.2.1 12).2.2.1 ∈ lw_tbl ∧ (q.2.1 12).1 = RX12 := ⟨_, cls_12, by decide, (im_11 (i := 23) rfl), rfl⟩
theorem ff_X12_65 : ∃ q : vw_C, CLS 12 q ∧ 13 < q.2.2 ∧ Cond.fieldLink RX12 65 (q.2.1 13).1 (q.2.1 13).2.1 (q.2.1 13).2.2.1 ∈ lw_tbl ∧ (q.2.1 13).1 = RX12 := ⟨_, cls_12, by decide, (im_11 (i := 24) rfl), rfl⟩
theorem ff_X12_68 : ∃ q : vw_C, CLS 12 q ∧ 14 < q.2.2 ∧ Cond.fieldLink RX12 68 (q.2.1 14).1 (q.2.1 14).2.1 (q.2.1 14).2.2.1 ∈ lw_tbl ∧ (q.2.1 14).1 = RX12 := ⟨_, cls_12, by decide, (im_11 (i := 25) rfl), rfl⟩
theorem ff_X12_75 : ∃ q : vw_C, CLS 12 q ∧ 28 < q.2.2 ∧ Cond.fieldLink RX12 75 (q.2.1 28).1 (q.2.1 28).2.1 (q.2.1 28).2.2.1 ∈ lw_tbl ∧ (q.2.1 28).1 = RX12 := ⟨_, cls_12, by decide, (im_11 (i := 27) rfl), rfl⟩
theorem ff_X12_77 : ∃ q : vw_C, CLS 12 q ∧ 29 < q.2.2 ∧ Cond.fieldLink RX12 77 (q.2.1 29).1 (q.2.1 29).2.1 (q.2.1 29).2.2.1 ∈ lw_tbl ∧ (q.2.1 29).1 = RX12 := ⟨_, cls_12, by decide, (im_11 (i := 28) rfl), rfl⟩
theorem ff_X12_80 : ∃ q : vw_C, CLS 12 q ∧ 30 < q.2.2 ∧ Cond.fieldLink RX12 80 (q.2.1 30).1 (q.2.1 30).2.1 (q.2.1 30).2.2.1 ∈ lw_tbl ∧ (q.2.1 30).1 = RX12 := ⟨_, cls_12, by decide, (im_11 (i := 29) rfl), rfl⟩
theorem ff_X12_83 : ∃ q : vw_C, CLS 12 q ∧ 38 < q.2.2 ∧ Cond.fieldLink RX12 83 (q.2.1 38).1 (q.2.1 38).2.1 (q.2.1 38).2.2.1 ∈ lw_tbl ∧ (q.2.1 38).1 = RX12 := ⟨_, cls_12, by decide, (im_11 (i := 31) rfl), rfl⟩
theorem ff_X12_86 : ∃ q : vw_C, CLS 12 q ∧ 39 < q.2.2 ∧ Cond.fieldLink RX12 86 (q.2.1 39).1 (q.2.1 39).2.1 (q.2.1 39).2.2.1 ∈ lw_tbl ∧ (q.2.1 39).1 = RX12 := ⟨_, cls_12, by decide, (im_11 (i := 32) rfl), rfl⟩
theorem ff_X12_89 : ∃ q : vw_C, CLS 12 q ∧ 40 < q.2.2 ∧ Cond.fieldLink RX12 89 (q.2.1 40).1 (q.2.1 40).2.1 (q.2.1 40).2.2.1 ∈ lw_tbl ∧ (q.2.1 40).1 = RX12 := ⟨_, cls_12, by decide, (im_11 (i := 33) rfl), rfl⟩
theorem ff_X12_92 : ∃ q : vw_C, CLS 12 q ∧ 42 < q.2.2 ∧ Cond.fieldLink RX12 92 (q.2.1 42).1 (q.2.1 42).2.1 (q.2.1 42).2.2.1 ∈ lw_tbl ∧ (q.2.1 42).1 = RX12 := ⟨_, cls_12, by decide, (im_11 (i := 34) rfl), rfl⟩
theorem ff_X12_95 : ∃ q : vw_C, CLS 12 q ∧ 43 < q.2.2 ∧ Cond.fieldLink RX12 95 (q.2.1 43).1 (q.2.1 43).2.1 (q.2.1 43).2.2.1 ∈ lw_tbl ∧ (q.2.1 43).1 = RX12 := ⟨_, cls_12, by decide, (im_11 (i := 35) rfl), rfl⟩
theorem ff_X12_98 : ∃ q : vw_C, CLS 12 q ∧ 44 < q.2.2 ∧ Cond.fieldLink RX12 98 (q.2.1 44).1 (q.2.1 44).2.1 (q.2.1 44).2.2.1 ∈ lw_tbl ∧ (q.2.1 44).1 = RX12 := ⟨_, cls_12, by decide, (im_11 (i := 36) rfl), rfl⟩
theorem ff_X12_101 : ∃ q : vw_C, CLS 12 q ∧ 45 < q.2.2 ∧ Cond.fieldLink RX12 101 (q.2.1 45).1 (q.2.1 45).2.1 (q.2.1 45).2.2.1 ∈ lw_tbl ∧ (q.2.1 45).1 = RX12 := ⟨_, cls_12, by decide, (im_11 (i := 37) rfl), rfl⟩
theorem ff_X12_104 : ∃ q : vw_C, CLS 12 q ∧ 46 < q.2.2 ∧ Cond.fieldLink RX12 104 (q.2.1 46).1 (q.2.1 46).2.1 (q.2.1 46).2.2.1 ∈ lw_tbl ∧ (q.2.1 46).1 = RX12 := ⟨_, cls_12, by decide, (im_11 (i := 38) rfl), rfl⟩
theorem ff_X12_107 : ∃ q : vw_C, CLS 12 q ∧ 47 < q.2.2 ∧ Cond.fieldLink RX12 107 (q.2.1 47).1 (q.2.1 47).2.1 (q.2.1 47).2.2.1 ∈ lw_tbl ∧ (q.2.1 47).1 = RX12 := ⟨_, cls_12, by decide, (im_11 (i := 39) rfl), rfl⟩
theorem ff_X12_110 : ∃ q : vw_C, CLS 12 q ∧ 48 < q.2.2 ∧ Cond.fieldLink RX12 110 (q.2.1 48).1 (q.2.1 48).2.1 (q.2.1 48).2.2.1 ∈ lw_tbl ∧ (q.2.1 48).1 = RX12 := ⟨_, cls_12, by decide, (im_11 (i := 40) rfl), rfl⟩
theorem ff_X12_113 : ∃ q : vw_C, CLS 12 q ∧ 49 < q.2.2 ∧ Cond.fieldLink RX12 113 (q.2.1 49).1 (q.2.1 49).2.1 (q.2.1 49).2.2.1 ∈ lw_tbl ∧ (q.2.1 49).1 = RX12 := ⟨_, cls_12, by decide, (im_11 (i := 41) rfl), rfl⟩
theorem ff_X12_116 : ∃ q : vw_C, CLS 12 q ∧ 50 < q.2.2 ∧ Cond.fieldLink RX12 116 (q.2.1 50).1 (q.2.1 50).2.1 (q.2.1 50).2.2.1 ∈ lw_tbl ∧ (q.2.1 50).1 = RX12 := ⟨_, cls_12, by decide, (im_11 (i := 42) rfl), rfl⟩
theorem ff_X12_119 : ∃ q : vw_C, CLS 12 q ∧ 51 < q.2.2 ∧ Cond.fieldLink RX12 119 (q.2.1 51).1 (q.2.1 51).2.1 (q.2.1 51).2.2.1 ∈ lw_tbl ∧ (q.2.1 51).1 = RX12 := ⟨_, cls_12, by decide, (im_11 (i := 43) rfl), rfl⟩
theorem ff_X12_122 : ∃ q : vw_C, CLS 12 q ∧ 53 < q.2.2 ∧ Cond.fieldLink RX12 122 (q.2.1 53).1 (q.2.1 53).2.1 (q.2.1 53).2.2.1 ∈ lw_tbl ∧ (q.2.1 53).1 = RX12 := ⟨_, cls_12, by decide, (im_11 (i := 44) rfl), rfl⟩
theorem ff_X12_125 : ∃ q : vw_C, CLS 12 q ∧ 58 < q.2.2 ∧ Cond.fieldLink RX12 125 (q.2.1 58).1 (q.2.1 58).2.1 (q.2.1 58).2.2.1 ∈ lw_tbl ∧ (q.2.1 58).1 = RX12 := ⟨_, cls_12, by decide, (im_11 (i := 45) rfl), rfl⟩
theorem ff_X12_128 : ∃ q : vw_C, CLS 12 q ∧ 59 < q.2.2 ∧ Cond.fieldLink RX12 128 (q.2.1 59).1 (q.2.1 59).2.1 (q.2.1 59).2.2.1 ∈ lw_tbl ∧ (q.2.1 59).1 = RX12 := ⟨_, cls_12, by decide, (im_11 (i := 46) rfl), rfl⟩
theorem ff_X12_131 : ∃ q : vw_C, CLS 12 q ∧ 60 < q.2.2 ∧ Cond.fieldLink RX12 131 (q.2.1 60).1 (q.2.1 60).2.1 (q.2.1 60).2.2.1 ∈ lw_tbl ∧ (q.2.1 60).1 = RX12 := ⟨_, cls_12, by decide, (im_11 (i := 47) rfl), rfl⟩
theorem ff_X12_134 : ∃ q : vw_C, CLS 12 q ∧ 61 < q.2.2 ∧ Cond.fieldLink RX12 134 (q.2.1 61).1 (q.2.1 61).2.1 (q.2.1 61).2.2.1 ∈ lw_tbl ∧ (q.2.1 61).1 = RX12 := ⟨_, cls_12, by decide, (im_11 (i := 48) rfl), rfl⟩
theorem ff_X12_137 : ∃ q : vw_C, CLS 12 q ∧ 62 < q.2.2 ∧ Cond.fieldLink RX12 137 (q.2.1 62).1 (q.2.1 62).2.1 (q.2.1 62).2.2.1 ∈ lw_tbl ∧ (q.2.1 62).1 = RX12 := ⟨_, cls_12, by decide, (im_11 (i := 49) rfl), rfl⟩
theorem ff_X12_140 : ∃ q : vw_C, CLS 12 q ∧ 63 < q.2.2 ∧ Cond.fieldLink RX12 140 (q.2.1 63).1 (q.2.1 63).2.1 (q.2.1 63).2.2.1 ∈ lw_tbl ∧ (q.2.1 63).1 = RX12 := ⟨_, cls_12, by decide, (im_11 (i := 50) rfl), rfl⟩
theorem ck_X11_7 : Cond.classLink RX11 7 RX9 ∈ lw_tbl := (im_1 (i := 26) rfl)
theorem ins_9 : Cond.instantiable RX9 2 ∈ lw_tbl := (im_1 (i := 27) rfl)
theorem ini_9 : Cond.initialized RX9 ∈ lw_tbl := (im_1 (i := 1) rfl)
theorem cnw_9 : CNW 9 (RX9, TX9, 2) := ⟨tyX9, tyX9_ok, by decide +kernel⟩
theorem ck_X11_16 : Cond.classLink RX11 16 RX1 ∈ lw_tbl := (im_1 (i := 35) rfl)
theorem ins_1 : Cond.instantiable RX1 9 ∈ lw_tbl := (im_1 (i := 36) rfl)
theorem ini_1 : Cond.initialized RX1 ∈ lw_tbl := (im_1 (i := 2) rfl)
theorem cnw_1 : CNW 1 (RX1, TX1, 9) := ⟨tyX1, tyX1_ok, by decide +kernel⟩
theorem ck_X11_23 : Cond.classLink RX11 23 RX2 ∈ lw_tbl := (im_2 (i := 34) rfl)
theorem ins_2 : Cond.instantiable RX2 7 ∈ lw_tbl := (im_2 (i := 35) rfl)
theorem ini_2 : Cond.initialized RX2 ∈ lw_tbl := (im_1 (i := 4) rfl)
theorem cnw_2 : CNW 2 (RX2, TX2, 7) := ⟨tyX2, tyX2_ok, by decide +kernel⟩
theorem ck_X11_32 : Cond.classLink RX11 32 RX4 ∈ lw_tbl := (im_4 (i := 23) rfl)
theorem ins_4 : Cond.instantiable RX4 7 ∈ lw_tbl := (im_4 (i := 24) rfl)
theorem ini_4 : Cond.initialized RX4 ∈ lw_tbl := (im_1 (i := 8) rfl)
theorem cnw_4 : CNW 4 (RX4, TX4, 7) := ⟨tyX4, tyX4_ok, by decide +kernel⟩
theorem ck_X11_44 : Cond.classLink RX11 44 RX8 ∈ lw_tbl := (im_4 (i := 52) rfl)
theorem ins_8 : Cond.instantiable RX8 13 ∈ lw_tbl := (im_2 (i := 42) rfl)
theorem ini_8 : Cond.initialized RX8 ∈ lw_tbl := (im_1 (i := 5) rfl)
theorem cnw_8 : CNW 8 (RX8, TX8, 13) := ⟨tyX8, tyX8_ok, by decide +kernel⟩
theorem ck_X11_51 : Cond.classLink RX11 51 RX7 ∈ lw_tbl := (im_4 (i := 54) rfl)
theorem ins_7 : Cond.instantiable RX7 6 ∈ lw_tbl := (im_4 (i := 55) rfl)
theorem ini_7 : Cond.initialized RX7 ∈ lw_tbl := (im_1 (i := 10) rfl)
theorem cnw_7 : CNW 7 (RX7, TX7, 6) := ⟨tyX7, tyX7_ok, by decide +kernel⟩
theorem ck_X11_63 : Cond.classLink RX11 63 RX3 ∈ lw_tbl := (im_5 (i := 9) rfl)
theorem ins_3 : Cond.instantiable RX3 1 ∈ lw_tbl := (im_5 (i := 10) rfl)
theorem ini_3 : Cond.initialized RX3 ∈ lw_tbl := (im_1 (i := 11) rfl)
theorem cnw_3 : CNW 3 (RX3, TX3, 1) := ⟨tyX3, tyX3_ok, by decide +kernel⟩
theorem ck_X1_15 : Cond.classLink RX1 15 RX5 ∈ lw_tbl := (im_1 (i := 40) rfl)
theorem ins_5 : Cond.instantiable RX5 3 ∈ lw_tbl := (im_1 (i := 41) rfl)
theorem ini_5 : Cond.initialized RX5 ∈ lw_tbl := (im_1 (i := 3) rfl)
theorem cnw_5 : CNW 5 (RX5, TX5, 3) := ⟨tyX5, tyX5_ok, by decide +kernel⟩
theorem ck_X2_9 : Cond.classLink RX2 9 RX1 ∈ lw_tbl := (im_2 (i := 39) rfl)
theorem ck_X2_18 : Cond.classLink RX2 18 RX8 ∈ lw_tbl := (im_2 (i := 41) rfl)
theorem ck_X2_27 : Cond.classLink RX2 27 RX10 ∈ lw_tbl := (im_3 (i := 17) rfl)
theorem ins_10 : Cond.instantiable RX10 8 ∈ lw_tbl := (im_3 (i := 18) rfl)
theorem ini_10 : Cond.initialized RX10 ∈ lw_tbl := (im_1 (i := 6) rfl)
theorem cnw_10 : CNW 10 (RX10, TX10, 8) := ⟨tyX10, tyX10_ok, by decide +kernel⟩
theorem ck_X2_36 : Cond.classLink RX2 36 RX6 ∈ lw_tbl := (im_4 (i := 2) rfl)
theorem ins_6 : Cond.instantiable RX6 3 ∈ lw_tbl := (im_4 (i := 3) rfl)
theorem ini_6 : Cond.initialized RX6 ∈ lw_tbl := (im_1 (i := 7) rfl)
theorem cnw_6 : CNW 6 (RX6, TX6, 3) := ⟨tyX6, tyX6_ok, by decide +kernel⟩
theorem ck_X4_9 : Cond.classLink RX4 9 RX0 ∈ lw_tbl := (im_4 (i := 28) rfl)
theorem ins_0 : Cond.instantiable RX0 2 ∈ lw_tbl := (im_4 (i := 29) rfl)
theorem ini_0 : Cond.initialized RX0 ∈ lw_tbl := (im_1 (i := 9) rfl)
theorem cnw_0 : CNW 0 (RX0, TX0, 2) := ⟨tyX0, tyX0_ok, by decide +kernel⟩
theorem ck_X4_31 : Cond.classLink RX4 31 RX8 ∈ lw_tbl := (im_4 (i := 36) rfl)
theorem ck_X12_9 : Cond.classLink RX12 9 "java/lang/String" ∈ lw_tbl := (im_11 (i := 8) rfl)
theorem aov : Cond.arrayOver (.object "java/lang/String") ∈ lw_tbl := (im_11 (i := 9) rfl)
theorem acl_byte : Cond.arrayClass .byte ∈ lw_tbl := (im_1 (i := 34) rfl)
theorem acl_int : Cond.arrayClass .int ∈ lw_tbl := (im_1 (i := 51) rfl)
theorem acl_long : Cond.arrayClass .long ∈ lw_tbl := (im_5 (i := 42) rfl)
theorem obj_w : ∀ w ∈ [Cond.instanceMethod objectInit, Cond.code objectInit ⟨#[0xb1]⟩ 1 none], w ∈ lw_tbl := List.forall_mem_cons.mpr ⟨(im_1 (i := 25) rfl), List.forall_mem_cons.mpr ⟨cw_141, fun _ h => absurd h List.not_mem_nil⟩⟩
theorem oi_X11_1 : Cond.methodLink RX11 1 objectInit ∈ lw_tbl := (im_1 (i := 24) rfl)
theorem oi_X0_3 : Cond.methodLink RX0 3 objectInit ∈ lw_tbl := (im_4 (i := 32) rfl)
theorem oi_X1_3 : Cond.methodLink RX1 3 objectInit ∈ lw_tbl := (im_1 (i := 39) rfl)
theorem oi_X2_3 : Cond.methodLink RX2 3 objectInit ∈ lw_tbl := (im_2 (i := 38) rfl)
theorem oi_X3_1 : Cond.methodLink RX3 1 objectInit ∈ lw_tbl := (im_5 (i := 13) rfl)
theorem oi_X4_3 : Cond.methodLink RX4 3 objectInit ∈ lw_tbl := (im_4 (i := 27) rfl)
theorem oi_X5_3 : Cond.methodLink RX5 3 objectInit ∈ lw_tbl := (im_1 (i := 44) rfl)
theorem oi_X6_3 : Cond.methodLink RX6 3 objectInit ∈ lw_tbl := (im_4 (i := 6) rfl)
theorem oi_X7_3 : Cond.methodLink RX7 3 objectInit ∈ lw_tbl := (im_4 (i := 58) rfl)
theorem oi_X8_3 : Cond.methodLink RX8 3 objectInit ∈ lw_tbl := (im_2 (i := 45) rfl)
theorem oi_X9_3 : Cond.methodLink RX9 3 objectInit ∈ lw_tbl := (im_1 (i := 30) rfl)
theorem oi_X10_3 : Cond.methodLink RX10 3 objectInit ∈ lw_tbl := (im_3 (i := 21) rfl)
theorem oi_X12_3 : Cond.methodLink RX12 3 objectInit ∈ lw_tbl := (im_11 (i := 7) rfl)
theorem mi_X0_init : yX0_init.name = "<init>" ∧ Cond.instanceMethod yX0_init ∈ lw_tbl := ⟨rfl, (im_4 (i := 31) rfl)⟩
theorem mi_X1_init : yX1_init.name = "<init>" ∧ Cond.instanceMethod yX1_init ∈ lw_tbl := ⟨rfl, (im_1 (i := 38) rfl)⟩
theorem mi_X2_init : yX2_init.name = "<init>" ∧ Cond.instanceMethod yX2_init ∈ lw_tbl := ⟨rfl, (im_2 (i := 37) rfl)⟩
theorem mi_X3_init : yX3_init.name = "<init>" ∧ Cond.instanceMethod yX3_init ∈ lw_tbl := ⟨rfl, (im_5 (i := 12) rfl)⟩
theorem mi_X4_init : yX4_init.name = "<init>" ∧ Cond.instanceMethod yX4_init ∈ lw_tbl := ⟨rfl, (im_4 (i := 26) rfl)⟩
theorem mi_X5_init : yX5_init.name = "<init>" ∧ Cond.instanceMethod yX5_init ∈ lw_tbl := ⟨rfl, (im_1 (i := 43) rfl)⟩
theorem mi_X6_init : yX6_init.name = "<init>" ∧ Cond.instanceMethod yX6_init ∈ lw_tbl := ⟨rfl, (im_4 (i := 5) rfl)⟩
theorem mi_X7_init : yX7_init.name = "<init>" ∧ Cond.instanceMethod yX7_init ∈ lw_tbl := ⟨rfl, (im_4 (i := 57) rfl)⟩
theorem mi_X8_init : yX8_init.name = "<init>" ∧ Cond.instanceMethod yX8_init ∈ lw_tbl := ⟨rfl, (im_2 (i := 44) rfl)⟩
theorem mi_X9_init : yX9_init.name = "<init>" ∧ Cond.instanceMethod yX9_init ∈ lw_tbl := ⟨rfl, (im_1 (i := 29) rfl)⟩
theorem mi_X10_init : yX10_init.name = "<init>" ∧ Cond.instanceMethod yX10_init ∈ lw_tbl := ⟨rfl, (im_3 (i := 20) rfl)⟩
theorem mli_X11_9 : Cond.methodLink RX11 9 yX9_init ∈ lw_tbl ∨ ∃ host, Cond.methodLinkNest RX11 9 yX9_init host ∈ lw_tbl := Or.inr ⟨"BlueBag", (im_1 (i := 28) rfl)⟩
theorem mli_X11_18 : Cond.methodLink RX11 18 yX1_init ∈ lw_tbl ∨ ∃ host, Cond.methodLinkNest RX11 18 yX1_init host ∈ lw_tbl := Or.inl (im_1 (i := 37) rfl)
theorem mli_X11_25 : Cond.methodLink RX11 25 yX2_init ∈ lw_tbl ∨ ∃ host, Cond.methodLinkNest RX11 25 yX2_init host ∈ lw_tbl := Or.inl (im_2 (i := 36) rfl)
theorem mli_X11_34 : Cond.methodLink RX11 34 yX4_init ∈ lw_tbl ∨ ∃ host, Cond.methodLinkNest RX11 34 yX4_init host ∈ lw_tbl := Or.inl (im_4 (i := 25) rfl)
theorem mli_X11_46 : Cond.methodLink RX11 46 yX8_init ∈ lw_tbl ∨ ∃ host, Cond.methodLinkNest RX11 46 yX8_init host ∈ lw_tbl := Or.inl (im_4 (i := 53) rfl)
theorem mli_X11_56 : Cond.methodLink RX11 56 yX7_init ∈ lw_tbl ∨ ∃ host, Cond.methodLinkNest RX11 56 yX7_init host ∈ lw_tbl := Or.inl (im_4 (i := 56) rfl)
theorem mli_X11_65 : Cond.methodLink RX11 65 yX3_init ∈ lw_tbl ∨ ∃ host, Cond.methodLinkNest RX11 65 yX3_init host ∈ lw_tbl := Or.inr ⟨"BlueBag", (im_5 (i := 11) rfl)⟩
theorem mli_X1_17 : Cond.methodLink RX1 17 yX5_init ∈ lw_tbl ∨ ∃ host, Cond.methodLinkNest RX1 17 yX5_init host ∈ lw_tbl := Or.inr ⟨"BlueBag", (im_1 (i := 42) rfl)⟩
theorem mli_X2_11 : Cond.methodLink RX2 11 yX1_init ∈ lw_tbl ∨ ∃ host, Cond.methodLinkNest RX2 11 yX1_init host ∈ lw_tbl := Or.inl (im_2 (i := 40) rfl)
theorem mli_X2_20 : Cond.methodLink RX2 20 yX8_init ∈ lw_tbl ∨ ∃ host, Cond.methodLinkNest RX2 20 yX8_init host ∈ lw_tbl := Or.inl (im_2 (i := 43) rfl)
theorem mli_X2_29 : Cond.methodLink RX2 29 yX10_init ∈ lw_tbl ∨ ∃ host, Cond.methodLinkNest RX2 29 yX10_init host ∈ lw_tbl := Or.inl (im_3 (i := 19) rfl)
theorem mli_X2_42 : Cond.methodLink RX2 42 yX6_init ∈ lw_tbl ∨ ∃ host, Cond.methodLinkNest RX2 42 yX6_init host ∈ lw_tbl := Or.inl (im_4 (i := 4) rfl)
theorem mli_X4_11 : Cond.methodLink RX4 11 yX0_init ∈ lw_tbl ∨ ∃ host, Cond.methodLinkNest RX4 11 yX0_init host ∈ lw_tbl := Or.inr ⟨"BlueBag", (im_4 (i := 30) rfl)⟩
theorem mli_X4_33 : Cond.methodLink RX4 33 yX8_init ∈ lw_tbl ∨ ∃ host, Cond.methodLinkNest RX4 33 yX8_init host ∈ lw_tbl := Or.inl (im_4 (i := 37) rfl)
theorem k_bipushv_m13 : (Int8.ofInt (-13)).toInt32 = ((-13) : Int32) := by decide
theorem k_bipushv_m6 : (Int8.ofInt (-6)).toInt32 = ((-6) : Int32) := by decide
theorem k_bipushv_6 : (Int8.ofInt (6)).toInt32 = (6 : Int32) := by decide
theorem k_bipushv_8 : (Int8.ofInt (8)).toInt32 = (8 : Int32) := by decide
theorem k_bipushv_9 : (Int8.ofInt (9)).toInt32 = (9 : Int32) := by decide
theorem k_bipushv_12 : (Int8.ofInt (12)).toInt32 = (12 : Int32) := by decide
theorem k_bipushv_16 : (Int8.ofInt (16)).toInt32 = (16 : Int32) := by decide
theorem k_bipushv_18 : (Int8.ofInt (18)).toInt32 = (18 : Int32) := by decide
theorem k_bipushv_20 : (Int8.ofInt (20)).toInt32 = (20 : Int32) := by decide
theorem k_bipushv_30 : (Int8.ofInt (30)).toInt32 = (30 : Int32) := by decide
theorem k_bipushv_40 : (Int8.ofInt (40)).toInt32 = (40 : Int32) := by decide
theorem k_bipushv_41 : (Int8.ofInt (41)).toInt32 = (41 : Int32) := by decide
theorem k_bipushv_60 : (Int8.ofInt (60)).toInt32 = (60 : Int32) := by decide
theorem k_bipushv_63 : (Int8.ofInt (63)).toInt32 = (63 : Int32) := by decide
theorem k_bipushv_64 : (Int8.ofInt (64)).toInt32 = (64 : Int32) := by decide
theorem k_bipushv_99 : (Int8.ofInt (99)).toInt32 = (99 : Int32) := by decide
theorem k_iconstv_m1 : Int32.ofInt (-1) = ((-1) : Int32) := by decide
theorem k_iconstv_0 : Int32.ofInt (0) = (0 : Int32) := by decide
theorem k_iconstv_1 : Int32.ofInt (1) = (1 : Int32) := by decide
theorem k_iconstv_2 : Int32.ofInt (2) = (2 : Int32) := by decide
theorem k_iconstv_3 : Int32.ofInt (3) = (3 : Int32) := by decide
theorem k_iconstv_4 : Int32.ofInt (4) = (4 : Int32) := by decide
theorem k_iconstv_5 : Int32.ofInt (5) = (5 : Int32) := by decide
theorem k_sipushv_448 : (Int16.ofInt (448)).toInt32 = (448 : Int32) := by decide
theorem k_sipushv_700 : (Int16.ofInt (700)).toInt32 = (700 : Int32) := by decide
theorem k_sipushv_1400 : (Int16.ofInt (1400)).toInt32 = (1400 : Int32) := by decide
theorem k_sipushv_1640 : (Int16.ofInt (1640)).toInt32 = (1640 : Int32) := by decide
theorem k_sipushv_1800 : (Int16.ofInt (1800)).toInt32 = (1800 : Int32) := by decide
theorem k_sipushv_9999 : (Int16.ofInt (9999)).toInt32 = (9999 : Int32) := by decide
theorem k_sipushv_12345 : (Int16.ofInt (12345)).toInt32 = (12345 : Int32) := by decide
theorem k_sipushv_32767 : (Int16.ofInt (32767)).toInt32 = (32767 : Int32) := by decide
/-! ===== the JDK's String.length and charAt over the constants ===== -/
def MVs (yn : MethodName) : Prop := Cond.instanceMethod yn ∈ lw_tbl ∧ Cond.selects yn.cls yn yn ∈ lw_tbl ∧ yn.cls = "java/lang/String"
section GR7
variable {g : GX} {x : KX} {own : String} {cc : ByteArray} {nL d mc ms : Nat} {Q : State → Prop} {kc ks : Nat} {y : Lay} {M : Mem} {pc i : Nat} {L : List (Option Value)} {S : List Value} {tb : Tb}
theorem adV {k : Nat} (hk : k < nStr) : ad g (2000 + k) = g.2.2.2.1 (1000 + k) := by
  have hk' : k < 37 := hk
  unfold ad
  rw [if_neg (by omega), if_neg (by omega), show 2000 + k - 1000 = 1000 + k by omega]
theorem g_nret0 (C : CX g x own cc nL d mc ms) {e : Int32} {ty : FieldType} (R : RT0 g x Q (some ty) y (e, M)) (he : narrow ty (.int e) = .int e) (T : dck cc tb = true) (hi : tb[i]? = some (pc, .ireturn, 1)) : GG g x nL Q 0 0 y M pc L [.int e] := by
  intro H locs ls h1 h2 h4
  obtain ⟨rfl, hr⟩ := R
  exact W.zret C.1 C.2.1 hr he (fun t ht hw => ⟨rfl, by rw [ht]; exact h1, h2.F ht⟩) (fun q hq => h2.2.2 q hq) (dcg T hi) C.2.2.2.2.1
theorem g_i2c (C : CX g x own cc nL d mc ms) (T : dck cc tb = true) {a : Int32} (v : Int32) (hv : (a.toUInt32 % 65536).toInt32 = v) (hi : tb[i]? = some (pc, .i2c, 1)) (k : GG g x nL Q kc ks y M (pc + 1) L (.int v :: S)) : GG g x nL Q kc ks y M pc L (.int a :: S) :=
  fun H locs ls h1 h2 h4 => lv_i2c C.1 C.2.1 (dcg T hi) hv (k H locs ls h1 h2 h4)
/-- fields of a constant; statics; its row of bytes -/
theorem g_strF (C : CX g x "java/lang/String" cc nL d mc ms) (T : dck cc tb = true) {idx k : Nat} {n e : String} {v : Value} (hk : k < nStr) (hi : tb[i]? = some (pc, .getfield idx, 3)) (hw : Cond.fieldLink "java/lang/String" idx "java/lang/String" n e ∈ lw_tbl) (hE : va_OF "java/lang/String" n e (va g v) (g.2.2.2.1 k) (Ag g) g.1 g.1.heap) (kk : GG g x nL Q kc ks y M (pc + 3) L (v :: S)) : GG g x nL Q kc ks y M pc L (.ref (1000 + k) :: S) := by
  intro H locs ls h1 h2 h4
  have kk' := kk H locs ls h1 h2 h4
  show WX x H locs kc ks Q (F0 _ pc ls (.ref (ad g (1000 + k)) :: S.map (va g)))
  rw [SF.adK hk]
  exact vk_getf C.1 C.2.1 ((va_OF.moved (C.2.2.2.2.2.2.2.1).alike hE).kept C.low) h2 C.2.2.2.1 (C.word hw rfl) (fun _ h => h) (dcg T hi) kk'
theorem g_stat (C : CX g x own cc nL d mc ms) (T : dck cc tb = true) {idx : Nat} {c n e : String} {v : Value} (hi : tb[i]? = some (pc, .getstatic idx, 3)) (hw : Cond.fieldLink own idx c n e ∈ lw_tbl) (hE : va_Z c n e (va g v) (Ag g) g.1 g.1.heap) (kk : GG g x nL Q kc ks y M (pc + 3) L (v :: S)) : GG g x nL Q kc ks y M pc L S := by
  intro H locs ls h1 h2 h4
  exact va_gets C.1 C.2.1 ((va_Z.moved (C.2.2.2.2.2.2.2.1).alike hE).kept C.low) h2 C.2.2.2.1 (C.word hw rfl) (fun _ h => h) (dcg T hi) (kk H locs ls h1 h2 h4)
theorem g_sbl (C : CX g x own cc nL d mc ms) (T : dck cc tb = true) {k : Nat} (hk : k < nStr) (hi : tb[i]? = some (pc, .arraylength, 1)) (kk : GG g x nL Q kc ks y M (pc + 1) L (.int (Int32.ofNat (strB k).length) :: S)) : GG g x nL Q kc ks y M pc L (.ref (2000 + k) :: S) := by
  intro H locs ls h1 h2 h4
  have kk' := kk H locs ls h1 h2 h4
  show WX x H locs kc ks Q (F0 _ pc ls (.ref (ad g (2000 + k)) :: S.map (va g)))
  rw [adV hk]
  exact va_tlen C.1 C.2.1 ((va_T.moved (C.2.2.2.2.2.2.2.1).alike (C.2.2.2.2.2.2.1.2.2.2.1.1 k hk).2.2.2.1).kept C.low) h2 rfl (dcg T hi) kk'
theorem g_sbb (C : CX g x own cc nL d mc ms) (T : dck cc tb = true) {k : Nat} {j : Int32} (hk : k < nStr) (hi : tb[i]? = some (pc, .baload, 1)) (hj : ¬ (j < 0 ∨ (strB k).length ≤ j.toNatClampNeg)) (kk : GG g x nL Q kc ks y M (pc + 1) L (.int ((strB k).getD j.toNatClampNeg 0) :: S)) : GG g x nL Q kc ks y M pc L (.int j :: .ref (2000 + k) :: S) := by
  intro H locs ls h1 h2 h4
  have kk' := kk H locs ls h1 h2 h4
  show WX x H locs kc ks Q (F0 _ pc ls (.int j :: .ref (ad g (2000 + k)) :: S.map (va g)))
  rw [adV hk]
  exact va_tb C.1 C.2.1 ((va_T.moved (C.2.2.2.2.2.2.2.1).alike (C.2.2.2.2.2.2.1.2.2.2.1.1 k hk).2.2.2.1).kept C.low) h2 hj rfl (dcg T hi) kk'
theorem preVs (C : CX g x own cc nL d mc ms) {H : Heap} {locs : List Loc} {k : Nat} {yn : MethodName} {av : List Value} (hk : k < nStr) (h1 : RelH g y M H) (h2 : va_S (Ag g) x.2.2.2.2.1.heap H locs) (hv : MVs yn) : PreV x.2.2.2.2.1 H yn.cls (ad g (1000 + k)) (PK g y (.ref (1000 + k) :: av) M) (av.map (va g)) := by
  obtain ⟨cell, c1, c2, c3, -⟩ := (va_O.moved (C.2.2.2.2.2.2.2.1).alike (C.2.2.2.2.2.2.1.2.2.2.1.1 k hk).1).kept (C.low) |>.kept h2.2.1
  refine ⟨PK_blind, ⟨cell, by rw [SF.adK hk]; exact c1, c2, by rw [hv.2.2]; exact c3⟩, fun U hU hW => ⟨rfl, by rw [hU]; exact h1, State.WarmedH.trans C.2.2.2.2.2.2.2.1 hW, ?_, ?_⟩⟩
  · rw [hU]; exact Nat.le_trans C.2.2.2.2.2.2.2.2.1 h2.1
  · intro q hq
    rw [hU, h2.2.1 q (Nat.lt_of_lt_of_le hq C.2.2.2.2.2.2.2.2.1) (Nat.not_le.mpr hq)]
    exact C.2.2.2.2.2.2.2.2.2 q hq
theorem g_callVs (C : CX g x own cc nL d mc ms) (T : dck cc tb = true) {idx k n maxL d2 : Nat} {yn : MethodName} {c2 : ByteArray} {ret : Option FieldType} {f : Option (Int32 × Mem)} {r : Int32} {M1 : Mem} (av : List Value) (hi : tb[i]? = some (pc, .invokevirtual idx, 3)) (hW : MW yn c2 maxL ret n) (hV : MVs yn) (hl : Cond.methodLink own idx yn ∈ lw_tbl) (hk : k < nStr) (hd : Nat.ble (d2 + 1) d = true) (hm : Nat.ble maxL 80 = true) (hn : av.length = n) (hS8 : Nat.ble ((S.map fun v => v.category).sum) 8 = true)
    (hc : C0 g x.2.1 yn c2 maxL ret d2 y (.ref (1000 + k) :: av) M f) (hf : f = some (r, M1)) (hkc : Nat.ble kc mc = true) (hks : Nat.ble ks ms = true) {S' : List Value} (hst : av.reverse ++ .ref (1000 + k) :: S = S') (kk : GG g x nL Q kc ks y M1 (pc + 3) L (resv ret.isSome r ++ S)) : GG g x nL Q kc ks y M pc L S' := by
  intro H locs ls h1 h2 h4
  subst hst
  have hcw : CallW x.2.2.2.1 x.2.2.2.2.1 x.2.2.2.2.2.2.1 own yn.cls idx yn c2 maxL ret [Cond.code yn c2 maxL ret] (rmD d2 0 0) 0 0 n := ⟨callB0 C hW hl hd hm, C.word hV.1 rfl, C.word hV.2.1 rfl⟩
  have hR : RLE x.2.2.2.1 d mc ms := C.2.2.2.2.2.1
  refine after0 (mc := 0) (ms := 0) h2 h4 (va_runV ⟨C.1, C.2.1, C.2.2.1, C.2.2.2.1, fun w (hw : w ∈ ([] : List Cond)) => absurd hw List.not_mem_nil⟩ (hc _ hf) hcw (preVs C hk h1 h2 hV) rfl ?_ h4.1.1 ?_ ?_ (dcg T hi) ?_) kk
  · rw [List.length_map]; exact hn
  · show List.map (va g) (av.reverse ++ .ref (1000 + k) :: S) = (av.map (va g)).reverse ++ .ref (ad g (1000 + k)) :: S.map (va g)
    rw [List.map_append, List.map_reverse]; rfl
  · show 2 * 0 + _ ≤ 8
    have := cat_le (g := g) hS8
    omega
  · exact ⟨by rw [hR.2.2.1]; have := Nat.le_of_ble_eq_true hkc; omega, by rw [hR.2.2.2]; have := Nat.le_of_ble_eq_true hks; omega⟩
end GR7
theorem shr_0 (v : Int32) : v >>> ((0 : Int32) &&& 31) = v := by
  rw [show ((0 : Int32) &&& 31) = 0 by decide]
  exact Int32.shiftRight_zero
def chN (v : Int32) : Int32 := ((v &&& 255).toUInt32 % 65536).toInt32
theorem ch_ok : ∀ k, k < 37 → ∀ j, j < (strB k).length → chN ((strB k).getD j 0) = (strB k).getD j 0 ∧ narrow .char (.int ((strB k).getD j 0)) = .int ((strB k).getD j 0) := by decide +kernel
theorem sl_ok : ∀ k, k < 37 → (strB k).length < 100 := by decide +kernel

def tbs_len : Tb := [(0, .aload_n 0, 1), (1, .getfield 9, 3), (4, .arraylength, 1), (5, .aload_n 0, 1), (6, .invokevirtual 335, 3), (9, .ishr, 1), (10, .ireturn, 1)]
theorem tbs_len_ok : dck cJ0_length_8abf5 tbs_len = true := by decide +kernel
theorem mws_len : MW yJ0_length_8abf5 cJ0_length_8abf5 1 (some .int) 0 := ⟨cw_853, (im_1 (i := 17) rfl), by decide, by decide +kernel⟩
def tbs_cod : Tb := [(0, .getstatic 38, 3), (3, .ifCond .eq 10, 3), (6, .aload_n 0, 1), (7, .getfield 15, 3), (10, .goto 4, 3), (13, .iconst 1, 1), (14, .ireturn, 1)]
theorem tbs_cod_ok : dck cJ0_coder_7d493 tbs_cod = true := by decide +kernel
theorem mws_cod : MW yJ0_coder_7d493 cJ0_coder_7d493 1 (some .byte) 0 := ⟨cw_857, (im_1 (i := 17) rfl), by decide, by decide +kernel⟩
def tbs_cha : Tb := [(0, .aload_n 0, 1), (1, .invokevirtual 492, 3), (4, .ifCond .eq 12, 3), (7, .aload_n 0, 1), (8, .getfield 9, 3), (11, .iload_n 1, 1), (12, .invokestatic 495, 3), (15, .ireturn, 1), (16, .aload_n 0, 1), (17, .getfield 9, 3), (20, .iload_n 1, 1), (21, .invokestatic 498, 3), (24, .ireturn, 1)]
theorem tbs_cha_ok : dck cJ0_charAt_5068e tbs_cha = true := by decide +kernel
theorem mws_cha : MW yJ0_charAt_5068e cJ0_charAt_5068e 2 (some .char) 1 := ⟨cw_863, (im_1 (i := 17) rfl), by decide, by decide +kernel⟩
def tbs_lat : Tb := [(0, .getstatic 38, 3), (3, .ifCond .eq 14, 3), (6, .aload_n 0, 1), (7, .getfield 15, 3), (10, .ifCond .ne 7, 3), (13, .iconst 1, 1), (14, .goto 4, 3), (17, .iconst 0, 1), (18, .ireturn, 1)]
theorem tbs_lat_ok : dck cJ0_isLatin1_aae02 tbs_lat = true := by decide +kernel
theorem mws_lat : MW yJ0_isLatin1_aae02 cJ0_isLatin1_aae02 1 (some .boolean) 0 := ⟨cw_867, (im_1 (i := 17) rfl), by decide, by decide +kernel⟩
def tbs_lch : Tb := [(0, .iload_n 1, 1), (1, .aload_n 0, 1), (2, .arraylength, 1), (3, .invokestatic 9, 3), (6, .aload_n 0, 1), (7, .iload_n 1, 1), (8, .baload, 1), (9, .sipush 255, 3), (12, .iand, 1), (13, .i2c, 1), (14, .ireturn, 1)]
theorem tbs_lch_ok : dck cJ1_charAt_3b067 tbs_lch = true := by decide +kernel
theorem mws_lch : MW yJ1_charAt_3b067 cJ1_charAt_3b067 2 (some .char) 2 := ⟨cw_870, (im_1 (i := 18) rfl), by decide, by decide +kernel⟩
def tbs_chk : Tb := [(0, .iload_n 0, 1), (1, .iload_n 1, 1), (2, .getstatic 1053, 3), (5, .invokestatic 1059, 3), (8, .pop, 1), (9, .return_, 1)]
theorem tbs_chk_ok : dck cJ0_checkIndex_df160 tbs_chk = true := by decide +kernel
theorem mws_chk : MW yJ0_checkIndex_df160 cJ0_checkIndex_df160 2 none 2 := ⟨cw_873, (im_1 (i := 17) rfl), by decide, by decide +kernel⟩
def tbs_pre : Tb := [(0, .iload_n 0, 1), (1, .ifCond .lt 8, 3), (4, .iload_n 0, 1), (5, .iload_n 1, 1), (6, .if_icmp .lt 10, 3), (9, .aload_n 2, 1), (10, .iload_n 0, 1), (11, .iload_n 1, 1), (12, .invokestatic 95, 3), (15, .athrow, 1), (16, .iload_n 0, 1), (17, .ireturn, 1)]
theorem tbs_pre_ok : dck cJ3_checkIndex_8e157 tbs_pre = true := by decide +kernel
theorem mws_pre : MW yJ3_checkIndex_8e157 cJ3_checkIndex_8e157 3 (some .int) 3 := ⟨cw_878, (im_1 (i := 19) rfl), by decide, by decide +kernel⟩
theorem mvs_len : MVs yJ0_length_8abf5 := ⟨(im_9 (i := 0) rfl), (im_9 (i := 1) rfl), rfl⟩
theorem mvs_cod : MVs yJ0_coder_7d493 := ⟨(im_9 (i := 3) rfl), (im_9 (i := 4) rfl), rfl⟩
theorem mvs_cha : MVs yJ0_charAt_5068e := ⟨(im_9 (i := 6) rfl), (im_9 (i := 7) rfl), rfl⟩
theorem mvs_lat : MVs yJ0_isLatin1_aae02 := ⟨(im_9 (i := 9) rfl), (im_9 (i := 10) rfl), rfl⟩
theorem msts_lch : Cond.static yJ1_charAt_3b067 ∈ lw_tbl := (im_9 (i := 12) rfl)
theorem msts_chk : Cond.static yJ0_checkIndex_df160 ∈ lw_tbl := (im_9 (i := 14) rfl)
theorem msts_pre : Cond.static yJ3_checkIndex_8e157 ∈ lw_tbl := (im_9 (i := 17) rfl)
theorem mls_c : Cond.methodLink "java/lang/String" 335 yJ0_coder_7d493 ∈ lw_tbl := (im_9 (i := 2) rfl)
theorem mls_l : Cond.methodLink "java/lang/String" 492 yJ0_isLatin1_aae02 ∈ lw_tbl := (im_9 (i := 8) rfl)
theorem mls_h : Cond.methodLink "java/lang/String" 495 yJ1_charAt_3b067 ∈ lw_tbl := (im_9 (i := 11) rfl)
theorem mls_x : Cond.methodLink "java/lang/StringLatin1" 9 yJ0_checkIndex_df160 ∈ lw_tbl := (im_9 (i := 13) rfl)
theorem mls_p : Cond.methodLink "java/lang/String" 1059 yJ3_checkIndex_8e157 ∈ lw_tbl := (im_9 (i := 16) rfl)
theorem fls_val : Cond.fieldLink "java/lang/String" 9 "java/lang/String" "value" "[B" ∈ lw_tbl := (im_14 (i := 4) rfl)
theorem fls_cod : Cond.fieldLink "java/lang/String" 15 "java/lang/String" "coder" "B" ∈ lw_tbl := (im_14 (i := 5) rfl)
theorem fls_cmp : Cond.fieldLink "java/lang/String" 38 "java/lang/String" "COMPACT_STRINGS" "Z" ∈ lw_tbl := (im_9 (i := 5) rfl)
theorem fls_fmt : Cond.fieldLink "java/lang/String" 1053 "jdk/internal/util/Preconditions" "SIOOBE_FORMATTER" "Ljava/util/function/BiFunction;" ∈ lw_tbl := (im_9 (i := 15) rfl)
end
section

theorem ws_coder {g : GX} {l : Launch} (hG : GF g l) (y : Lay) (M : Mem) (k : Nat) (hk : k < nStr) : C0 g l yJ0_coder_7d493 cJ0_coder_7d493 1 (some .byte) 0 y [.ref (1000 + k)] M (some (0, M)) := by
  refine C0_of hG (by decide) [some (.ref (1000 + k))] rfl rfl (fun out h x Q C R => ?_)
  cases h
  refine g_stat C tbs_cod_ok (i := 0) (v := .int 1) rfl fls_cmp C.G.2.2.2.1.2.1 ?_
  refine g_if_eq C tbs_cod_ok (i := 1) 13 rfl rfl (fun c => ?_) (fun c => ?_)
  · exact absurd c (by decide)
  · refine g_aload_n C tbs_cod_ok (i := 2) rfl rfl ?_
    refine g_strF C tbs_cod_ok (i := 3) (v := .int 0) hk rfl fls_cod (C.G.2.2.2.1.1 k hk).2.1 ?_
    refine g_goto C tbs_cod_ok (i := 4) 14 rfl rfl ?_
    exact g_nret0 C R rfl tbs_cod_ok (i := 6) rfl
theorem ws_latin {g : GX} {l : Launch} (hG : GF g l) (y : Lay) (M : Mem) (k : Nat) (hk : k < nStr) : C0 g l yJ0_isLatin1_aae02 cJ0_isLatin1_aae02 1 (some .boolean) 0 y [.ref (1000 + k)] M (some (1, M)) := by
  refine C0_of hG (by decide) [some (.ref (1000 + k))] rfl rfl (fun out h x Q C R => ?_)
  cases h
  refine g_stat C tbs_lat_ok (i := 0) (v := .int 1) rfl fls_cmp C.G.2.2.2.1.2.1 ?_
  refine g_if_eq C tbs_lat_ok (i := 1) 17 rfl rfl (fun c => ?_) (fun c => ?_)
  · exact absurd c (by decide)
  · refine g_aload_n C tbs_lat_ok (i := 2) rfl rfl ?_
    refine g_strF C tbs_lat_ok (i := 3) (v := .int 0) hk rfl fls_cod (C.G.2.2.2.1.1 k hk).2.1 ?_
    refine g_if_ne C tbs_lat_ok (i := 4) 17 rfl rfl (fun c => ?_) (fun c => ?_)
    · exact absurd rfl c
    · refine g_iconstv C tbs_lat_ok (i := 5) 1 rfl (by decide) ?_
      refine g_goto C tbs_lat_ok (i := 6) 18 rfl rfl ?_
      exact g_nret0 C R rfl tbs_lat_ok (i := 8) rfl
theorem ws_pre {g : GX} {l : Launch} (hG : GF g l) (y : Lay) (M : Mem) (a b : Int32) (v : Value) (hv : v = .null ∨ v = .ref 1998) (h1 : ¬ a < 0) (h2 : a < b) : C0 g l yJ3_checkIndex_8e157 cJ3_checkIndex_8e157 3 (some .int) 0 y [.int a, .int b, v] M (some (a, M)) := by
  refine C0_of hG (by decide) [some (.int a), some (.int b), some v] (by rcases hv with rfl | rfl <;> rfl) (by rcases hv with rfl | rfl <;> rfl) (fun out h x Q C R => ?_)
  cases h
  refine g_iload_n C tbs_pre_ok (i := 0) rfl rfl ?_
  refine g_if_lt C tbs_pre_ok (i := 1) 9 rfl rfl (fun c => absurd c h1) (fun c => ?_)
  refine g_iload_n C tbs_pre_ok (i := 2) rfl rfl ?_
  refine g_iload_n C tbs_pre_ok (i := 3) rfl rfl ?_
  refine g_icmp_lt C tbs_pre_ok (i := 4) 16 rfl rfl (fun c => ?_) (fun c => absurd h2 c)
  refine g_iload_n C tbs_pre_ok (i := 10) rfl rfl ?_
  exact g_iret0 C R tbs_pre_ok (i := 11) rfl
theorem ws_chk {g : GX} {l : Launch} (hG : GF g l) (y : Lay) (M : Mem) (a b : Int32) (h1 : ¬ a < 0) (h2 : a < b) : C0 g l yJ0_checkIndex_df160 cJ0_checkIndex_df160 2 none 1 y [.int a, .int b] M (some (0, M)) := by
  refine C0_of hG (by decide) [some (.int a), some (.int b)] rfl rfl (fun out h x Q C R => ?_)
  cases h
  refine g_iload_n C tbs_chk_ok (i := 0) rfl rfl ?_
  refine g_iload_n C tbs_chk_ok (i := 1) rfl rfl ?_
  have key : ∀ v : Value, v = .null ∨ v = .ref 1998 → GG g x 2 Q 0 0 y M 5 [some (.int a), some (.int b)] [v, .int b, .int a] := by
    intro v hv
    refine g_callS0 C tbs_chk_ok (i := 3) [.int a, .int b, v] rfl mws_pre msts_pre mls_p rfl rfl rfl rfl (ws_pre C.G y M a b v hv h1 h2) rfl rfl rfl rfl ?_
    refine g_pop C tbs_chk_ok (i := 4) rfl rfl ?_
    exact g_vret0 C R tbs_chk_ok (i := 5) rfl
  rcases C.G.2.2.2.1.2.2 with hE | hE
  · exact g_stat C tbs_chk_ok (i := 2) (v := .null) rfl fls_fmt hE (key _ (Or.inl rfl))
  · exact g_stat C tbs_chk_ok (i := 2) (v := .ref 1998) rfl fls_fmt (by rw [show va g (.ref 1998) = .ref (g.2.2.2.1 998) from rfl]; exact hE) (key _ (Or.inr rfl))
theorem ws_lch {g : GX} {l : Launch} (hG : GF g l) (y : Lay) (M : Mem) (k : Nat) (j : Int32) (hk : k < nStr) (hj : ¬ (j < 0 ∨ (strB k).length ≤ j.toNatClampNeg)) : C0 g l yJ1_charAt_3b067 cJ1_charAt_3b067 2 (some .char) 2 y [.ref (2000 + k), .int j] M (some ((strB k).getD j.toNatClampNeg 0, M)) := by
  refine C0_of hG (by decide) [some (.ref (2000 + k)), some (.int j)] rfl rfl (fun out h x Q C R => ?_)
  cases h
  have hl := sl_ok k hk
  have h0 : ¬ j < 0 := fun h => hj (Or.inl h)
  have h1 : j.toNatClampNeg < (strB k).length := Nat.not_le.mp fun h => hj (Or.inr h)
  have h2 : j < Int32.ofNat (strB k).length := by
    obtain ⟨n, hn, rfl⟩ := nI_of h0
    rw [nI_clamp hn] at h1
    exact nI_lt h1 (by omega)
  refine g_iload_n C tbs_lch_ok (i := 0) rfl rfl ?_
  refine g_aload_n C tbs_lch_ok (i := 1) rfl rfl ?_
  refine g_sbl C tbs_lch_ok (i := 2) hk rfl ?_
  refine g_callS0 C tbs_lch_ok (i := 3) [.int j, .int (Int32.ofNat (strB k).length)] rfl mws_chk msts_chk mls_x rfl rfl rfl rfl (ws_chk C.G y M j _ h0 h2) rfl rfl rfl rfl ?_
  refine g_aload_n C tbs_lch_ok (i := 4) rfl rfl ?_
  refine g_iload_n C tbs_lch_ok (i := 5) rfl rfl ?_
  refine g_sbb C tbs_lch_ok (i := 6) hk rfl hj ?_
  refine g_sipushv C tbs_lch_ok (i := 7) 255 rfl (by decide) ?_
  refine g_iand C tbs_lch_ok (i := 8) rfl ?_
  refine g_i2c C tbs_lch_ok (i := 9) _ (ch_ok k hk _ h1).1 rfl ?_
  exact g_nret0 C R (ch_ok k hk _ h1).2 tbs_lch_ok (i := 10) rfl
theorem ws_len {g : GX} {l : Launch} (hG : GF g l) (y : Lay) (M : Mem) (k : Nat) (hk : k < nStr) : C0 g l yJ0_length_8abf5 cJ0_length_8abf5 1 (some .int) 1 y [.ref (1000 + k)] M (some (Int32.ofNat (strB k).length, M)) := by
  refine C0_of hG (by decide) [some (.ref (1000 + k))] rfl rfl (fun out h x Q C R => ?_)
  cases h
  refine g_aload_n C tbs_len_ok (i := 0) rfl rfl ?_
  refine g_strF C tbs_len_ok (i := 1) (v := .ref (2000 + k)) hk rfl fls_val (by show va_OF _ _ _ (.ref (ad g (2000 + k))) _ _ _ _; rw [adV hk]; exact (C.G.2.2.2.1.1 k hk).2.2.1) ?_
  refine g_sbl C tbs_len_ok (i := 2) hk rfl ?_
  refine g_aload_n C tbs_len_ok (i := 3) rfl rfl ?_
  refine g_callVs C tbs_len_ok (i := 4) [] rfl mws_cod mvs_cod mls_c hk rfl rfl rfl rfl (ws_coder C.G y M k hk) rfl rfl rfl rfl ?_
  refine g_ishr C tbs_len_ok (i := 5) rfl ?_
  rw [shr_0]
  exact g_iret0 C R tbs_len_ok (i := 6) rfl
theorem ws_char {g : GX} {l : Launch} (hG : GF g l) (y : Lay) (M : Mem) (k : Nat) (j : Int32) (hk : k < nStr) (hj : ¬ (j < 0 ∨ (strB k).length ≤ j.toNatClampNeg)) : C0 g l yJ0_charAt_5068e cJ0_charAt_5068e 2 (some .char) 3 y [.ref (1000 + k), .int j] M (some ((strB k).getD j.toNatClampNeg 0, M)) := by
  refine C0_of hG (by decide) [some (.ref (1000 + k)), some (.int j)] rfl rfl (fun out h x Q C R => ?_)
  cases h
  have h1 : j.toNatClampNeg < (strB k).length := Nat.not_le.mp fun h => hj (Or.inr h)
  refine g_aload_n C tbs_cha_ok (i := 0) rfl rfl ?_
  refine g_callVs C tbs_cha_ok (i := 1) [] rfl mws_lat mvs_lat mls_l hk rfl rfl rfl rfl (ws_latin C.G y M k hk) rfl rfl rfl rfl ?_
  refine g_if_eq C tbs_cha_ok (i := 2) 16 rfl rfl (fun c => absurd c (by decide)) (fun c => ?_)
  refine g_aload_n C tbs_cha_ok (i := 3) rfl rfl ?_
  refine g_strF C tbs_cha_ok (i := 4) (v := .ref (2000 + k)) hk rfl fls_val (by show va_OF _ _ _ (.ref (ad g (2000 + k))) _ _ _ _; rw [adV hk]; exact (C.G.2.2.2.1.1 k hk).2.2.1) ?_
  refine g_iload_n C tbs_cha_ok (i := 5) rfl rfl ?_
  refine g_callS0 C tbs_cha_ok (i := 6) [.ref (2000 + k), .int j] rfl mws_lch msts_lch mls_h rfl rfl rfl rfl (ws_lch C.G y M k j hk hj) rfl rfl rfl rfl ?_
  exact g_nret0 C R (ch_ok k hk _ h1).2 tbs_cha_ok (i := 7) rfl
section GR8
variable {g : GX} {x : KX} {own : String} {cc : ByteArray} {nL d mc ms : Nat} {Q : State → Prop} {kc ks : Nat} {y : Lay} {M : Mem} {pc i : Nat} {L : List (Option Value)} {S : List Value} {tb : Tb}
theorem g_strLen (C : CX g x own cc nL d mc ms) (T : dck cc tb = true) {idx r : Nat} (hi : tb[i]? = some (pc, .invokevirtual idx, 3)) (hl : Cond.methodLink own idx yJ0_length_8abf5 ∈ lw_tbl) (hd : Nat.ble 2 d = true) (hS8 : Nat.ble ((S.map fun v => v.category).sum) 8 = true) (hkc : Nat.ble kc mc = true) (hks : Nat.ble ks ms = true) (hr : 1000 ≤ r ∧ r < 1037) (kk : GG g x nL Q kc ks y M (pc + 3) L (.int (Int32.ofNat (strB (r - 1000)).length) :: S)) : GG g x nL Q kc ks y M pc L (.ref r :: S) := by
  obtain ⟨k, rfl⟩ : ∃ k, r = 1000 + k := ⟨r - 1000, by omega⟩
  have hk : k < nStr := show k < 37 by omega
  rw [show 1000 + k - 1000 = k by omega] at kk
  exact g_callVs C T [] hi mws_len mvs_len hl hk hd rfl rfl hS8 (ws_len C.G y M k hk) rfl hkc hks rfl kk
theorem g_strCh (C : CX g x own cc nL d mc ms) (T : dck cc tb = true) {idx r : Nat} {j : Int32} (hi : tb[i]? = some (pc, .invokevirtual idx, 3)) (hl : Cond.methodLink own idx yJ0_charAt_5068e ∈ lw_tbl) (hd : Nat.ble 4 d = true) (hS8 : Nat.ble ((S.map fun v => v.category).sum) 8 = true) (hkc : Nat.ble kc mc = true) (hks : Nat.ble ks ms = true) (hr : 1000 ≤ r ∧ r < 1037) (hj : ¬ (j < 0 ∨ (strB (r - 1000)).length ≤ j.toNatClampNeg)) (kk : GG g x nL Q kc ks y M (pc + 3) L (.int ((strB (r - 1000)).getD j.toNatClampNeg 0) :: S)) : GG g x nL Q kc ks y M pc L (.int j :: .ref r :: S) := by
  obtain ⟨k, rfl⟩ : ∃ k, r = 1000 + k := ⟨r - 1000, by omega⟩
  have hk : k < nStr := show k < 37 by omega
  rw [show 1000 + k - 1000 = k by omega] at kk hj
  exact g_callVs C T [.int j] hi mws_cha mvs_cha hl hk hd rfl rfl hS8 (ws_char C.G y M k j hk hj) rfl hkc hks rfl kk
end GR8
end
section
def f_X9_init (y : Lay) (a0 : Nat) (M : Mem) : Option (Lay × Mem) := gd (y.2.2 + 2 ≤ 1000) (lt (psh y (2, 700)) fun (y2 : Lay) => lt (zM M (y.2.2 + 1)) fun (M3 : Mem) => gK y2 a0 (0, 9) (gN (y.2.2 + 1) (lt (wF y2 a0 0 (y.2.2 + 1)) fun (y6 : Lay) => some (y6, M3))))
theorem w_X9_init {g : GX} {l : Launch} (hG : GF g l) (y : Lay) (a0 : Nat) (M : Mem) : CIt g l yX9_init cX9_init 1 0 1 700 y [.ref a0] M (f_X9_init y a0 M) := by
  refine CI_of hG (by decide) rfl [some (.ref a0)] rfl rfl (fun out h x Q C R hz => ?_)
  have hz0 := hz
  unfold f_X9_init at h
  refine g_aload_n C tb_X9_init_0_ok (i := 0) rfl rfl ?_
  refine g_objI C tb_X9_init_0_ok (i := 1) rfl oi_X9_3 obj_w rfl ?_
  refine g_aload_n C tb_X9_init_0_ok (i := 2) rfl rfl ?_
  refine g_sipushv C tb_X9_init_0_ok (i := 3) 700 rfl k_sipushv_700 ?_
  obtain ⟨g1, h⟩ := gd_e h
  refine g_newaB C tb_X9_init_0_ok (i := 4) (N := 700) hz rfl acl_byte (by decide) (by decide) rfl g1 rfl rfl (fun hz => ?_)
  refine g_nm (fun y2 ey2 M3 eM3 => ?_)
  have h := lt_e eM3 (lt_e ey2 h)
  rw [← ey2] at hz
  obtain ⟨k4, h⟩ := gK_e h
  obtain ⟨n5, h⟩ := gN_e h
  refine g_putF C tb_X9_init_0_ok R (i := 5) rfl ff_X9_9 ft_9_0 (Or.inr ⟨_, rfl⟩) rfl n5 k4 ?_
  refine g_nmy (fun y6 ey6 => ?_)
  have h := lt_e ey6 h
  have hz : HZ g x _ y6 := by rw [ey6]; exact hz
  cases h
  exact g_vretI C R hz rfl (by have h8 : x.2.2.2.2.1.heap.size + 0 = bs g + y.2.2 := hz0; have h9 : x.2.2.2.2.1.heap.size + _ = bs g + _ := hz; omega) rfl tb_X9_init_0_ok (i := 6) rfl
def f_X5_init (y : Lay) (a0 : Nat) (M : Mem) : Option (Lay × Mem) := gd (y.2.2 + 2 ≤ 1000) (lt (psh y (1, 700)) fun (y2 : Lay) => lt (zM M (y.2.2 + 1)) fun (M3 : Mem) => gK y2 a0 (0, 5) (gN (y.2.2 + 1) (lt (wF y2 a0 0 (y.2.2 + 1)) fun (y6 : Lay) => gd (y6.2.2 + 2 ≤ 1000) (lt (psh y6 (1, 40)) fun (y8 : Lay) => lt (zM M3 (y6.2.2 + 1)) fun (M9 : Mem) => gK y8 a0 (0, 5) (gN (y6.2.2 + 1) (lt (wF y8 a0 1 (y6.2.2 + 1)) fun (y12 : Lay) => some (y12, M9)))))))
theorem w_X5_init {g : GX} {l : Launch} (hG : GF g l) (y : Lay) (a0 : Nat) (M : Mem) : CIt g l yX5_init cX5_init 1 0 2 740 y [.ref a0] M (f_X5_init y a0 M) := by
  refine CI_of hG (by decide) rfl [some (.ref a0)] rfl rfl (fun out h x Q C R hz => ?_)
  have hz0 := hz
  unfold f_X5_init at h
  refine g_aload_n C tb_X5_init_0_ok (i := 0) rfl rfl ?_
  refine g_objI C tb_X5_init_0_ok (i := 1) rfl oi_X5_3 obj_w rfl ?_
  refine g_aload_n C tb_X5_init_0_ok (i := 2) rfl rfl ?_
  refine g_sipushv C tb_X5_init_0_ok (i := 3) 700 rfl k_sipushv_700 ?_
  obtain ⟨g1, h⟩ := gd_e h
  refine g_newaI C tb_X5_init_0_ok (i := 4) (N := 700) hz rfl acl_int (by decide) (by decide) rfl g1 rfl rfl (fun hz => ?_)
  refine g_nm (fun y2 ey2 M3 eM3 => ?_)
  have h := lt_e eM3 (lt_e ey2 h)
  rw [← ey2] at hz
  obtain ⟨k4, h⟩ := gK_e h
  obtain ⟨n5, h⟩ := gN_e h
  refine g_putF C tb_X5_init_0_ok R (i := 5) rfl ff_X5_9 ft_5_0 (Or.inr ⟨_, rfl⟩) rfl n5 k4 ?_
  refine g_nmy (fun y6 ey6 => ?_)
  have h := lt_e ey6 h
  have hz : HZ g x _ y6 := by rw [ey6]; exact hz
  refine g_aload_n C tb_X5_init_0_ok (i := 6) rfl rfl ?_
  refine g_bipushv C tb_X5_init_0_ok (i := 7) 40 rfl k_bipushv_40 ?_
  obtain ⟨g7, h⟩ := gd_e h
  refine g_newaI C tb_X5_init_0_ok (i := 8) (N := 40) hz rfl acl_int (by decide) (by decide) rfl g7 rfl rfl (fun hz => ?_)
  refine g_nm (fun y8 ey8 M9 eM9 => ?_)
  have h := lt_e eM9 (lt_e ey8 h)
  rw [← ey8] at hz
  obtain ⟨k10, h⟩ := gK_e h
  obtain ⟨n11, h⟩ := gN_e h
  refine g_putF C tb_X5_init_0_ok R (i := 9) rfl ff_X5_15 ft_5_1 (Or.inr ⟨_, rfl⟩) rfl n11 k10 ?_
  refine g_nmy (fun y12 ey12 => ?_)
  have h := lt_e ey12 h
  have hz : HZ g x _ y12 := by rw [ey12]; exact hz
  cases h
  exact g_vretI C R hz rfl (by have h8 : x.2.2.2.2.1.heap.size + 0 = bs g + y.2.2 := hz0; have h9 : x.2.2.2.2.1.heap.size + _ = bs g + _ := hz; omega) rfl tb_X5_init_0_ok (i := 10) rfl
def f_X1_cells (y : Lay) (a0 : Nat) (M : Mem) : Option Int32 := gK y a0 (0, 1) (some ((M.1 a0 0) * (M.1 a0 1)))
theorem w_X1_cells {g : GX} {l : Launch} (hG : GF g l) (y : Lay) (a0 : Nat) (M : Mem) : C0 g l yX1_cells cX1_cells 1 (some .int) 0 y [.ref a0] M (pm M (f_X1_cells y a0 M)) := by
  refine CP_of hG (by decide) [some (.ref a0)] rfl rfl (fun out h x Q C R => ?_)
  unfold f_X1_cells at h
  refine g_aload_n C tb_X1_cells_0_ok (i := 0) rfl rfl ?_
  obtain ⟨k1, h⟩ := gK_e h
  refine g_getI C tb_X1_cells_0_ok (i := 1) rfl fl_X1_48 rfl k1 ?_
  refine g_aload_n C tb_X1_cells_0_ok (i := 2) rfl rfl ?_
  refine g_getI C tb_X1_cells_0_ok (i := 3) rfl fl_X1_51 rfl k1 ?_
  refine g_imul C tb_X1_cells_0_ok (i := 4) rfl ?_
  cases h
  exact g_iret0 C R tb_X1_cells_0_ok (i := 5) rfl
def f_X1_columnOf (y : Lay) (a0 : Nat) (a1 : Int32) (M : Mem) : Option Int32 := gK y a0 (0, 1) (jn (fun (v2 : Int32) => some v2) fun j3 => br ((M.1 a0 0) ≤ 0) (j3 (0 : Int32)) (gd (¬ (M.1 a0 0) = 0) (j3 (a1 - a1 / (M.1 a0 0) * (M.1 a0 0)))))
theorem w_X1_columnOf {g : GX} {l : Launch} (hG : GF g l) (y : Lay) (a0 : Nat) (a1 : Int32) (M : Mem) : C0 g l yX1_columnOf cX1_columnOf 2 (some .int) 0 y [.ref a0, .int a1] M (pm M (f_X1_columnOf y a0 a1 M)) := by
  refine CP_of hG (by decide) [some (.ref a0), some (.int a1)] rfl rfl (fun out h x Q C R => ?_)
  unfold f_X1_columnOf at h
  refine g_aload_n C tb_X1_columnOf_0_ok (i := 0) rfl rfl ?_
  obtain ⟨k1, h⟩ := gK_e h
  refine g_getI C tb_X1_columnOf_0_ok (i := 1) rfl fl_X1_48 rfl k1 ?_
  obtain ⟨j3, ej3, h⟩ := jn_e h
  have J17 : ∀ (v2 : Int32), j3 v2 = some out → GG g x 2 Q 0 0 y M 17 [none, none] [.int v2] := by
    intro v2 h; subst ej3
    cases h
    exact g_iret0 C R tb_X1_columnOf_0_ok (i := 9) rfl
  obtain ⟨t4, f5⟩ := br_e h
  refine g_if_le C tb_X1_columnOf_0_ok (i := 2) 16 rfl rfl (fun c => ?_) (fun c => ?_)
  · have h := t4 c
    refine g_iconstv C tb_X1_columnOf_0_ok (i := 8) 0 rfl k_iconstv_0 ?_
    exact g_less (L' := [none, none]) trivial (J17 (0 : Int32) h)
  · have h := f5 c
    refine g_iload_n C tb_X1_columnOf_0_ok (i := 3) rfl rfl ?_
    refine g_aload_n C tb_X1_columnOf_0_ok (i := 4) rfl rfl ?_
    refine g_getI C tb_X1_columnOf_0_ok (i := 5) rfl fl_X1_48 rfl k1 ?_
    obtain ⟨n6, h⟩ := gd_e h
    refine g_irem C tb_X1_columnOf_0_ok (i := 6) rfl n6 ?_
    refine g_goto C tb_X1_columnOf_0_ok (i := 7) 17 rfl rfl ?_
    exact g_less (L' := [none, none]) trivial (J17 (a1 - a1 / (M.1 a0 0) * (M.1 a0 0)) h)
def f_X1_bitsBeside (y : Lay) (a0 : Nat) (a1 : Int32) (M : Mem) : Option Int32 := gK y a0 (0, 1) (jn (fun (v2 : Int32) => cp (f_X1_cells y a0 M) fun (r4 : Int32) => jn (fun (v5 : Int32) => cp (f_X1_columnOf y a0 a1 M) fun (r7 : Int32) => jn (fun (v8 : Int32) => cp (f_X1_columnOf y a0 a1 M) fun (r10 : Int32) => jn (fun (v11 : Int32) => some v11) fun j12 => br (((M.1 a0 0) - (1 : Int32)) ≤ r10) (j12 v8) (lt (v8 ||| ((1 : Int32) <<< ((a1 + (1 : Int32)) &&& 31))) fun (v15 : Int32) => j12 v15)) fun j9 => br (r7 ≤ 0) (j9 v5) (lt (v5 ||| ((1 : Int32) <<< ((a1 - (1 : Int32)) &&& 31))) fun (v18 : Int32) => j9 v18)) fun j6 => br (r4 ≤ (a1 + (M.1 a0 0))) (j6 v2) (lt (v2 ||| ((1 : Int32) <<< ((a1 + (M.1 a0 0)) &&& 31))) fun (v21 : Int32) => j6 v21)) fun j3 => br (a1 < (M.1 a0 0)) (j3 (0 : Int32)) (lt ((0 : Int32) ||| ((1 : Int32) <<< ((a1 - (M.1 a0 0)) &&& 31))) fun (v24 : Int32) => j3 v24))
theorem w_X1_bitsBeside {g : GX} {l : Launch} (hG : GF g l) (y : Lay) (a0 : Nat) (a1 : Int32) (M : Mem) : C0 g l yX1_bitsBeside cX1_bitsBeside 3 (some .int) 1 y [.ref a0, .int a1] M (pm M (f_X1_bitsBeside y a0 a1 M)) := by
  refine CP_of hG (by decide) [some (.ref a0), some (.int a1), none] rfl rfl (fun out h x Q C R => ?_)
  unfold f_X1_bitsBeside at h
  refine g_iconstv C tb_X1_bitsBeside_0_ok (i := 0) 0 rfl k_iconstv_0 ?_
  refine g_istore_n C tb_X1_bitsBeside_0_ok (i := 1) rfl rfl rfl ?_
  refine g_iload_n C tb_X1_bitsBeside_0_ok (i := 2) rfl rfl ?_
  refine g_aload_n C tb_X1_bitsBeside_0_ok (i := 3) rfl rfl ?_
  obtain ⟨k1, h⟩ := gK_e h
  refine g_getI C tb_X1_bitsBeside_0_ok (i := 4) rfl fl_X1_48 rfl k1 ?_
  obtain ⟨j3, ej3, h⟩ := jn_e h
  have J21 : ∀ (v2 : Int32), j3 v2 = some out → GG g x 3 Q 0 0 y M 21 [some (.ref a0), some (.int a1), some (.int v2)] [] := by
    intro v2 h; subst ej3
    refine g_iload_n C tb_X1_bitsBeside_0_ok (i := 15) rfl rfl ?_
    refine g_aload_n C tb_X1_bitsBeside_0_ok (i := 16) rfl rfl ?_
    refine g_getI C tb_X1_bitsBeside_0_ok (i := 17) rfl fl_X1_48 rfl k1 ?_
    refine g_iadd C tb_X1_bitsBeside_0_ok (i := 18) rfl ?_
    refine g_aload_n C tb_X1_bitsBeside_0_ok (i := 19) rfl rfl ?_
    obtain ⟨r4, er4, h⟩ := cp_e h
    refine g_callV0 C tb_X1_bitsBeside_0_ok (i := 20) [] rfl mw_X1_cells mv_X1_cells ml_X1_54 k1 rfl rfl rfl rfl (w_X1_cells C.G y a0 M) (pm_s er4) rfl rfl rfl ?_
    obtain ⟨j6, ej6, h⟩ := jn_e h
    have J45 : ∀ (v5 : Int32), j6 v5 = some out → GG g x 3 Q 0 0 y M 45 [some (.ref a0), some (.int a1), some (.int v5)] [] := by
      intro v5 h; subst ej6
      refine g_aload_n C tb_X1_bitsBeside_0_ok (i := 31) rfl rfl ?_
      refine g_iload_n C tb_X1_bitsBeside_0_ok (i := 32) rfl rfl ?_
      obtain ⟨r7, er7, h⟩ := cp_e h
      refine g_callV0 C tb_X1_bitsBeside_0_ok (i := 33) [.int a1] rfl mw_X1_columnOf mv_X1_columnOf ml_X1_62 k1 rfl rfl rfl rfl (w_X1_columnOf C.G y a0 a1 M) (pm_s er7) rfl rfl rfl ?_
      obtain ⟨j9, ej9, h⟩ := jn_e h
      have J61 : ∀ (v8 : Int32), j9 v8 = some out → GG g x 3 Q 0 0 y M 61 [some (.ref a0), some (.int a1), some (.int v8)] [] := by
        intro v8 h; subst ej9
        refine g_aload_n C tb_X1_bitsBeside_1_ok (i := 3) rfl rfl ?_
        refine g_iload_n C tb_X1_bitsBeside_1_ok (i := 4) rfl rfl ?_
        obtain ⟨r10, er10, h⟩ := cp_e h
        refine g_callV0 C tb_X1_bitsBeside_1_ok (i := 5) [.int a1] rfl mw_X1_columnOf mv_X1_columnOf ml_X1_62 k1 rfl rfl rfl rfl (w_X1_columnOf C.G y a0 a1 M) (pm_s er10) rfl rfl rfl ?_
        refine g_aload_n C tb_X1_bitsBeside_1_ok (i := 6) rfl rfl ?_
        refine g_getI C tb_X1_bitsBeside_1_ok (i := 7) rfl fl_X1_48 rfl k1 ?_
        refine g_iconstv C tb_X1_bitsBeside_1_ok (i := 8) 1 rfl k_iconstv_1 ?_
        refine g_isub C tb_X1_bitsBeside_1_ok (i := 9) rfl ?_
        obtain ⟨j12, ej12, h⟩ := jn_e h
        have J83 : ∀ (v11 : Int32), j12 v11 = some out → GG g x 3 Q 0 0 y M 83 [none, none, some (.int v11)] [] := by
          intro v11 h; subst ej12
          refine g_iload_n C tb_X1_bitsBeside_1_ok (i := 19) rfl rfl ?_
          cases h
          exact g_iret0 C R tb_X1_bitsBeside_1_ok (i := 20) rfl
        obtain ⟨t13, f14⟩ := br_e h
        refine g_icmp_ge C tb_X1_bitsBeside_1_ok (i := 10) 83 rfl rfl (fun c => ?_) (fun c => ?_)
        · have h := t13 c
          exact g_less (L' := [none, none, some (.int v8)]) ⟨rfl, trivial⟩ (J83 v8 h)
        · have h := f14 c
          refine g_iload_n C tb_X1_bitsBeside_1_ok (i := 11) rfl rfl ?_
          refine g_iconstv C tb_X1_bitsBeside_1_ok (i := 12) 1 rfl k_iconstv_1 ?_
          refine g_iload_n C tb_X1_bitsBeside_1_ok (i := 13) rfl rfl ?_
          refine g_iconstv C tb_X1_bitsBeside_1_ok (i := 14) 1 rfl k_iconstv_1 ?_
          refine g_iadd C tb_X1_bitsBeside_1_ok (i := 15) rfl ?_
          refine g_ishl C tb_X1_bitsBeside_1_ok (i := 16) rfl ?_
          refine g_ior C tb_X1_bitsBeside_1_ok (i := 17) rfl ?_
          refine g_topi (fun v15 ev15 => ?_)
          have h := lt_e ev15 h
          refine g_istore_n C tb_X1_bitsBeside_1_ok (i := 18) rfl rfl rfl ?_
          exact g_less (L' := [none, none, some (.int v15)]) ⟨rfl, trivial⟩ (J83 v15 h)
      obtain ⟨t16, f17⟩ := br_e h
      refine g_if_le C tb_X1_bitsBeside_0_ok (i := 34) 61 rfl rfl (fun c => ?_) (fun c => ?_)
      · have h := t16 c
        exact g_less (L' := [some (.ref a0), some (.int a1), some (.int v5)]) ⟨rfl, ⟨rfl, ⟨rfl, trivial⟩⟩⟩ (J61 v5 h)
      · have h := f17 c
        refine g_iload_n C tb_X1_bitsBeside_0_ok (i := 35) rfl rfl ?_
        refine g_iconstv C tb_X1_bitsBeside_0_ok (i := 36) 1 rfl k_iconstv_1 ?_
        refine g_iload_n C tb_X1_bitsBeside_0_ok (i := 37) rfl rfl ?_
        refine g_iconstv C tb_X1_bitsBeside_0_ok (i := 38) 1 rfl k_iconstv_1 ?_
        refine g_isub C tb_X1_bitsBeside_0_ok (i := 39) rfl ?_
        refine g_ishl C tb_X1_bitsBeside_1_ok (i := 0) rfl ?_
        refine g_ior C tb_X1_bitsBeside_1_ok (i := 1) rfl ?_
        refine g_topi (fun v18 ev18 => ?_)
        have h := lt_e ev18 h
        refine g_istore_n C tb_X1_bitsBeside_1_ok (i := 2) rfl rfl rfl ?_
        exact g_less (L' := [some (.ref a0), some (.int a1), some (.int v18)]) ⟨rfl, ⟨rfl, ⟨rfl, trivial⟩⟩⟩ (J61 v18 h)
    obtain ⟨t19, f20⟩ := br_e h
    refine g_icmp_ge C tb_X1_bitsBeside_0_ok (i := 21) 45 rfl rfl (fun c => ?_) (fun c => ?_)
    · have h := t19 c
      exact g_less (L' := [some (.ref a0), some (.int a1), some (.int v2)]) ⟨rfl, ⟨rfl, ⟨rfl, trivial⟩⟩⟩ (J45 v2 h)
    · have h := f20 c
      refine g_iload_n C tb_X1_bitsBeside_0_ok (i := 22) rfl rfl ?_
      refine g_iconstv C tb_X1_bitsBeside_0_ok (i := 23) 1 rfl k_iconstv_1 ?_
      refine g_iload_n C tb_X1_bitsBeside_0_ok (i := 24) rfl rfl ?_
      refine g_aload_n C tb_X1_bitsBeside_0_ok (i := 25) rfl rfl ?_
      refine g_getI C tb_X1_bitsBeside_0_ok (i := 26) rfl fl_X1_48 rfl k1 ?_
      refine g_iadd C tb_X1_bitsBeside_0_ok (i := 27) rfl ?_
      refine g_ishl C tb_X1_bitsBeside_0_ok (i := 28) rfl ?_
      refine g_ior C tb_X1_bitsBeside_0_ok (i := 29) rfl ?_
      refine g_topi (fun v21 ev21 => ?_)
      have h := lt_e ev21 h
      refine g_istore_n C tb_X1_bitsBeside_0_ok (i := 30) rfl rfl rfl ?_
      exact g_less (L' := [some (.ref a0), some (.int a1), some (.int v21)]) ⟨rfl, ⟨rfl, ⟨rfl, trivial⟩⟩⟩ (J45 v21 h)
  obtain ⟨t22, f23⟩ := br_e h
  refine g_icmp_lt C tb_X1_bitsBeside_0_ok (i := 5) 21 rfl rfl (fun c => ?_) (fun c => ?_)
  · have h := t22 c
    exact g_less (L' := [some (.ref a0), some (.int a1), some (.int (0 : Int32))]) ⟨rfl, ⟨rfl, ⟨rfl, trivial⟩⟩⟩ (J21 (0 : Int32) h)
  · have h := f23 c
    refine g_iload_n C tb_X1_bitsBeside_0_ok (i := 6) rfl rfl ?_
    refine g_iconstv C tb_X1_bitsBeside_0_ok (i := 7) 1 rfl k_iconstv_1 ?_
    refine g_iload_n C tb_X1_bitsBeside_0_ok (i := 8) rfl rfl ?_
    refine g_aload_n C tb_X1_bitsBeside_0_ok (i := 9) rfl rfl ?_
    refine g_getI C tb_X1_bitsBeside_0_ok (i := 10) rfl fl_X1_48 rfl k1 ?_
    refine g_isub C tb_X1_bitsBeside_0_ok (i := 11) rfl ?_
    refine g_ishl C tb_X1_bitsBeside_0_ok (i := 12) rfl ?_
    refine g_ior C tb_X1_bitsBeside_0_ok (i := 13) rfl ?_
    refine g_topi (fun v24 ev24 => ?_)
    have h := lt_e ev24 h
    refine g_istore_n C tb_X1_bitsBeside_0_ok (i := 14) rfl rfl rfl ?_
    exact g_less (L' := [some (.ref a0), some (.int a1), some (.int v24)]) ⟨rfl, ⟨rfl, ⟨rfl, trivial⟩⟩⟩ (J21 v24 h)
def f_X1_shape (y : Lay) (a0 : Nat) (a1 : Int32) (a2 : Int32) (M : Mem) : Option (Int32 × Mem) := gK y a0 (0, 1) (lt (wI M a0 0 a1) fun (M2 : Mem) => lt (wI M2 a0 1 a2) fun (M3 : Mem) => fixN (fun _ _ => none) (fun (s6 : Int32 → Mem → Option (Int32 × Mem)) (v4 : Int32) (M5 : Mem) => br ((30 : Int32) ≤ v4) (some (0, M5)) (gN (y.2.1 a0 6) (cp (f_X1_cells y a0 M5) fun (r11 : Int32) => jn (fun (v12 : Int32) => gA y (y.2.1 a0 6) 1 v4 (lt (wI M5 (y.2.1 a0 6) v4.toNatClampNeg v12) fun (M15 : Mem) => lt (v4 + (1 : Int32)) fun (v16 : Int32) => s6 v16 M15)) fun j13 => br (r11 ≤ v4) (j13 (0 : Int32)) (cp (f_X1_bitsBeside y a0 v4 M5) fun (r19 : Int32) => j13 r19)))) FUEL (0 : Int32) M3)
theorem w_X1_shape {g : GX} {l : Launch} (hG : GF g l) (y : Lay) (a0 : Nat) (a1 : Int32) (a2 : Int32) (M : Mem) : C0 g l yX1_shape cX1_shape 4 none 2 y [.ref a0, .int a1, .int a2] M (f_X1_shape y a0 a1 a2 M) := by
  refine C0_of hG (by decide) [some (.ref a0), some (.int a1), some (.int a2), none] rfl rfl (fun out h x Q C R => ?_)
  unfold f_X1_shape at h
  refine g_aload_n C tb_X1_shape_0_ok (i := 0) rfl rfl ?_
  refine g_iload_n C tb_X1_shape_0_ok (i := 1) rfl rfl ?_
  obtain ⟨k1, h⟩ := gK_e h
  refine g_putI C tb_X1_shape_0_ok (i := 2) rfl fl_X1_48 ft_1_0 rfl k1 ?_
  refine g_mem (fun M2 eM2 => ?_)
  have h := lt_e eM2 h
  refine g_aload_n C tb_X1_shape_0_ok (i := 3) rfl rfl ?_
  refine g_iload_n C tb_X1_shape_0_ok (i := 4) rfl rfl ?_
  refine g_putI C tb_X1_shape_0_ok (i := 5) rfl fl_X1_51 ft_1_1 rfl k1 ?_
  refine g_mem (fun M3 eM3 => ?_)
  have h := lt_e eM3 h
  refine g_iconstv C tb_X1_shape_0_ok (i := 6) 0 rfl k_iconstv_0 ?_
  refine g_istore_n C tb_X1_shape_0_ok (i := 7) rfl rfl rfl ?_
  refine g_less (L' := [some (.ref a0), none, none, some (.int (0 : Int32))]) ⟨rfl, ⟨rfl, trivial⟩⟩ ?_
  refine fix_i (P := fun (f : Int32 → Mem → Option (Int32 × Mem)) => ∀ (v4 : Int32) (M5 : Mem), f v4 M5 = some out → GG g x 4 Q 0 0 y M5 12 [some (.ref a0), none, none, some (.int v4)] []) ?_ ?_ _ (0 : Int32) M3 h
  · intro v4 M5 h; exact (nn_e h).elim
  · intro s6 ih7 v4 M5 h
    refine g_iload_n C tb_X1_shape_0_ok (i := 8) rfl rfl ?_
    refine g_bipushv C tb_X1_shape_0_ok (i := 9) 30 rfl k_bipushv_30 ?_
    obtain ⟨t8, f9⟩ := br_e h
    refine g_icmp_ge C tb_X1_shape_0_ok (i := 10) 47 rfl rfl (fun c => ?_) (fun c => ?_)
    · have h := t8 c
      cases h
      exact g_vret0 C R tb_X1_shape_0_ok (i := 26) rfl
    · have h := f9 c
      refine g_aload_n C tb_X1_shape_0_ok (i := 11) rfl rfl ?_
      obtain ⟨n10, h⟩ := gN_e h
      refine g_getR C tb_X1_shape_0_ok (i := 12) rfl fl_X1_9 rfl k1 n10 ?_
      refine g_iload_n C tb_X1_shape_0_ok (i := 13) rfl rfl ?_
      refine g_iload_n C tb_X1_shape_0_ok (i := 14) rfl rfl ?_
      refine g_aload_n C tb_X1_shape_0_ok (i := 15) rfl rfl ?_
      obtain ⟨r11, er11, h⟩ := cp_e h
      refine g_callV0 C tb_X1_shape_0_ok (i := 16) [] rfl mw_X1_cells mv_X1_cells ml_X1_54 k1 rfl rfl rfl rfl (w_X1_cells C.G y a0 M5) (pm_s er11) rfl rfl rfl ?_
      obtain ⟨j13, ej13, h⟩ := jn_e h
      have J40 : ∀ (v12 : Int32), j13 v12 = some out → GG g x 4 Q 0 0 y M5 40 [some (.ref a0), none, none, some (.int v4)] [.int v12, .int v4, .ref (y.2.1 a0 6)] := by
        intro v12 h; subst ej13
        obtain ⟨b14, h⟩ := gA_e h
        refine g_iast C tb_X1_shape_0_ok (i := 23) rfl b14 ?_
        refine g_mem (fun M15 eM15 => ?_)
        have h := lt_e eM15 h
        obtain ⟨v16, ev16⟩ : ∃ w : Int32, w = v4 + (1 : Int32) := ⟨_, rfl⟩
        have h := lt_e ev16 h
        refine g_iincv C tb_X1_shape_0_ok (i := 24) (1 : Int32) ev16 rfl rfl k_iconstv_1 rfl rfl ?_
        refine g_goto C tb_X1_shape_0_ok (i := 25) 12 rfl rfl ?_
        exact g_less (L' := [some (.ref a0), none, none, some (.int v16)]) ⟨rfl, ⟨rfl, trivial⟩⟩ (ih7 v16 M15 h)
      obtain ⟨t17, f18⟩ := br_e h
      refine g_icmp_ge C tb_X1_shape_0_ok (i := 17) 39 rfl rfl (fun c => ?_) (fun c => ?_)
      · have h := t17 c
        refine g_iconstv C tb_X1_shape_0_ok (i := 22) 0 rfl k_iconstv_0 ?_
        exact g_less (L' := [some (.ref a0), none, none, some (.int v4)]) ⟨rfl, ⟨rfl, trivial⟩⟩ (J40 (0 : Int32) h)
      · have h := f18 c
        refine g_aload_n C tb_X1_shape_0_ok (i := 18) rfl rfl ?_
        refine g_iload_n C tb_X1_shape_0_ok (i := 19) rfl rfl ?_
        obtain ⟨r19, er19, h⟩ := cp_e h
        refine g_callV0 C tb_X1_shape_0_ok (i := 20) [.int v4] rfl mw_X1_bitsBeside mv_X1_bitsBeside ml_X1_58 k1 rfl rfl rfl rfl (w_X1_bitsBeside C.G y a0 v4 M5) (pm_s er19) rfl rfl rfl ?_
        refine g_goto C tb_X1_shape_0_ok (i := 21) 40 rfl rfl ?_
        exact g_less (L' := [some (.ref a0), none, none, some (.int v4)]) ⟨rfl, ⟨rfl, trivial⟩⟩ (J40 r19 h)
def f_X5_clear (y : Lay) (a0 : Nat) (M : Mem) : Option (Int32 × Mem) := gK y a0 (0, 5) (lt (wI M a0 2 (0 : Int32)) fun (M2 : Mem) => some (0, M2))
theorem w_X5_clear {g : GX} {l : Launch} (hG : GF g l) (y : Lay) (a0 : Nat) (M : Mem) : C0 g l yX5_clear cX5_clear 1 none 0 y [.ref a0] M (f_X5_clear y a0 M) := by
  refine C0_of hG (by decide) [some (.ref a0)] rfl rfl (fun out h x Q C R => ?_)
  unfold f_X5_clear at h
  refine g_aload_n C tb_X5_clear_0_ok (i := 0) rfl rfl ?_
  refine g_iconstv C tb_X5_clear_0_ok (i := 1) 0 rfl k_iconstv_0 ?_
  obtain ⟨k1, h⟩ := gK_e h
  refine g_putI C tb_X5_clear_0_ok (i := 2) rfl fl_X5_18 ft_5_2 rfl k1 ?_
  refine g_mem (fun M2 eM2 => ?_)
  have h := lt_e eM2 h
  cases h
  exact g_vret0 C R tb_X5_clear_0_ok (i := 3) rfl
def f_X1_begin (y : Lay) (a0 : Nat) (M : Mem) : Option (Int32 × Mem) := gK y a0 (0, 1) (c0 (f_X1_shape y a0 (3 : Int32) (3 : Int32) M) fun (r2 : Int32) (M3 : Mem) => lt (wI M3 a0 2 (2 : Int32)) fun (M4 : Mem) => lt (wI M4 a0 3 (60 : Int32)) fun (M5 : Mem) => lt (wI M5 a0 4 (0 : Int32)) fun (M6 : Mem) => lt (wI M6 a0 5 (0 : Int32)) fun (M7 : Mem) => gN (y.2.1 a0 7) (gK y (y.2.1 a0 7) (0, 5) (c0 (f_X5_clear y (y.2.1 a0 7) M7) fun (r10 : Int32) (M11 : Mem) => gN (y.2.1 a0 8) (gK y (y.2.1 a0 8) (0, 5) (c0 (f_X5_clear y (y.2.1 a0 8) M11) fun (r14 : Int32) (M15 : Mem) => some (0, M15))))))
theorem w_X1_begin {g : GX} {l : Launch} (hG : GF g l) (y : Lay) (a0 : Nat) (M : Mem) : C0 g l yX1_begin cX1_begin 1 none 3 y [.ref a0] M (f_X1_begin y a0 M) := by
  refine C0_of hG (by decide) [some (.ref a0)] rfl rfl (fun out h x Q C R => ?_)
  unfold f_X1_begin at h
  refine g_aload_n C tb_X1_begin_0_ok (i := 0) rfl rfl ?_
  refine g_iconstv C tb_X1_begin_0_ok (i := 1) 3 rfl k_iconstv_3 ?_
  refine g_iconstv C tb_X1_begin_0_ok (i := 2) 3 rfl k_iconstv_3 ?_
  obtain ⟨k1, h⟩ := gK_e h
  obtain ⟨r2, M3, er2, h⟩ := c0_e h
  refine g_callV0 C tb_X1_begin_0_ok (i := 3) [.int (3 : Int32), .int (3 : Int32)] rfl mw_X1_shape mv_X1_shape ml_X1_28 k1 rfl rfl rfl rfl (w_X1_shape C.G y a0 (3 : Int32) (3 : Int32) M) er2 rfl rfl rfl ?_
  refine g_aload_n C tb_X1_begin_0_ok (i := 4) rfl rfl ?_
  refine g_iconstv C tb_X1_begin_0_ok (i := 5) 2 rfl k_iconstv_2 ?_
  refine g_putI C tb_X1_begin_0_ok (i := 6) rfl fl_X1_32 ft_1_2 rfl k1 ?_
  refine g_mem (fun M4 eM4 => ?_)
  have h := lt_e eM4 h
  refine g_aload_n C tb_X1_begin_0_ok (i := 7) rfl rfl ?_
  refine g_bipushv C tb_X1_begin_0_ok (i := 8) 60 rfl k_bipushv_60 ?_
  refine g_putI C tb_X1_begin_0_ok (i := 9) rfl fl_X1_36 ft_1_3 rfl k1 ?_
  refine g_mem (fun M5 eM5 => ?_)
  have h := lt_e eM5 h
  refine g_aload_n C tb_X1_begin_0_ok (i := 10) rfl rfl ?_
  refine g_iconstv C tb_X1_begin_0_ok (i := 11) 0 rfl k_iconstv_0 ?_
  refine g_putI C tb_X1_begin_0_ok (i := 12) rfl fl_X1_39 ft_1_4 rfl k1 ?_
  refine g_mem (fun M6 eM6 => ?_)
  have h := lt_e eM6 h
  refine g_aload_n C tb_X1_begin_0_ok (i := 13) rfl rfl ?_
  refine g_iconstv C tb_X1_begin_0_ok (i := 14) 0 rfl k_iconstv_0 ?_
  refine g_putI C tb_X1_begin_0_ok (i := 15) rfl fl_X1_42 ft_1_5 rfl k1 ?_
  refine g_mem (fun M7 eM7 => ?_)
  have h := lt_e eM7 h
  refine g_aload_n C tb_X1_begin_0_ok (i := 16) rfl rfl ?_
  obtain ⟨n8, h⟩ := gN_e h
  refine g_getR C tb_X1_begin_0_ok (i := 17) rfl fl_X1_18 rfl k1 n8 ?_
  obtain ⟨k9, h⟩ := gK_e h
  obtain ⟨r10, M11, er10, h⟩ := c0_e h
  refine g_callV0 C tb_X1_begin_0_ok (i := 18) [] rfl mw_X5_clear mv_X5_clear ml_X1_45 k9 rfl rfl rfl rfl (w_X5_clear C.G y (y.2.1 a0 7) M7) er10 rfl rfl rfl ?_
  refine g_aload_n C tb_X1_begin_0_ok (i := 19) rfl rfl ?_
  obtain ⟨n12, h⟩ := gN_e h
  refine g_getR C tb_X1_begin_0_ok (i := 20) rfl fl_X1_22 rfl k1 n12 ?_
  obtain ⟨k13, h⟩ := gK_e h
  obtain ⟨r14, M15, er14, h⟩ := c0_e h
  refine g_callV0 C tb_X1_begin_0_ok (i := 21) [] rfl mw_X5_clear mv_X5_clear ml_X1_45 k13 rfl rfl rfl rfl (w_X5_clear C.G y (y.2.1 a0 8) M11) er14 rfl rfl rfl ?_
  cases h
  exact g_vret0 C R tb_X1_begin_0_ok (i := 22) rfl
def f_X1_init (y : Lay) (a0 : Nat) (M : Mem) : Option (Lay × Mem) := gd (y.2.2 + 2 ≤ 1000) (lt (psh y (1, 30)) fun (y2 : Lay) => lt (zM M (y.2.2 + 1)) fun (M3 : Mem) => gK y2 a0 (0, 1) (gN (y.2.2 + 1) (lt (wF y2 a0 6 (y.2.2 + 1)) fun (y6 : Lay) => gd (y6.2.2 + 2 ≤ 1000) (lt (psh y6 (0, 5)) fun (y8 : Lay) => lt (zM M3 (y6.2.2 + 1)) fun (M9 : Mem) => ci (f_X5_init y8 (y6.2.2 + 1) M9) fun (y10 : Lay) (M11 : Mem) => gK y10 a0 (0, 1) (gN (y6.2.2 + 1) (lt (wF y10 a0 7 (y6.2.2 + 1)) fun (y14 : Lay) => gd (y14.2.2 + 2 ≤ 1000) (lt (psh y14 (0, 5)) fun (y16 : Lay) => lt (zM M11 (y14.2.2 + 1)) fun (M17 : Mem) => ci (f_X5_init y16 (y14.2.2 + 1) M17) fun (y18 : Lay) (M19 : Mem) => gK y18 a0 (0, 1) (gN (y14.2.2 + 1) (lt (wF y18 a0 8 (y14.2.2 + 1)) fun (y22 : Lay) => gK y22 a0 (0, 1) (c0 (f_X1_begin y22 a0 M19) fun (r24 : Int32) (M25 : Mem) => some (y22, M25)))))))))))
theorem w_X1_init {g : GX} {l : Launch} (hG : GF g l) (y : Lay) (a0 : Nat) (M : Mem) : CIt g l yX1_init cX1_init 1 4 7 1516 y [.ref a0] M (f_X1_init y a0 M) := by
  refine CI_of hG (by decide) rfl [some (.ref a0)] rfl rfl (fun out h x Q C R hz => ?_)
  have hz0 := hz
  unfold f_X1_init at h
  refine g_aload_n C tb_X1_init_0_ok (i := 0) rfl rfl ?_
  refine g_objI C tb_X1_init_0_ok (i := 1) rfl oi_X1_3 obj_w rfl ?_
  refine g_aload_n C tb_X1_init_0_ok (i := 2) rfl rfl ?_
  refine g_bipushv C tb_X1_init_0_ok (i := 3) 30 rfl k_bipushv_30 ?_
  obtain ⟨g1, h⟩ := gd_e h
  refine g_newaI C tb_X1_init_0_ok (i := 4) (N := 30) hz rfl acl_int (by decide) (by decide) rfl g1 rfl rfl (fun hz => ?_)
  refine g_nm (fun y2 ey2 M3 eM3 => ?_)
  have h := lt_e eM3 (lt_e ey2 h)
  rw [← ey2] at hz
  obtain ⟨k4, h⟩ := gK_e h
  obtain ⟨n5, h⟩ := gN_e h
  refine g_putF C tb_X1_init_0_ok R (i := 5) rfl ff_X1_9 ft_1_6 (Or.inr ⟨_, rfl⟩) rfl n5 k4 ?_
  refine g_nmy (fun y6 ey6 => ?_)
  have h := lt_e ey6 h
  have hz : HZ g x _ y6 := by rw [ey6]; exact hz
  refine g_aload_n C tb_X1_init_0_ok (i := 6) rfl rfl ?_
  obtain ⟨g7, h⟩ := gd_e h
  refine g_new C tb_X1_init_0_ok (i := 7) hz rfl cls_5 cnw_5 ck_X1_15 ins_5 ini_5 (Or.inr g7) rfl rfl (fun hz => ?_)
  refine g_nm (fun y8 ey8 M9 eM9 => ?_)
  have h := lt_e eM9 (lt_e ey8 h)
  rw [← ey8] at hz
  refine g_dup C tb_X1_init_0_ok (i := 8) rfl rfl ?_
  obtain ⟨y10, M11, ey10, h⟩ := ci_e h
  refine g_callI C tb_X1_init_0_ok (i := 9) [] hz rfl mw_X5_init mi_X5_init mli_X1_17 rfl rfl rfl rfl (w_X5_init C.G y8 (y6.2.2 + 1) M9) ey10 rfl rfl rfl (fun hz => ?_)
  obtain ⟨k12, h⟩ := gK_e h
  obtain ⟨n13, h⟩ := gN_e h
  refine g_putF C tb_X1_init_0_ok R (i := 10) rfl ff_X1_18 ft_1_7 (Or.inl ⟨_, rfl⟩) rfl n13 k12 ?_
  refine g_nmy (fun y14 ey14 => ?_)
  have h := lt_e ey14 h
  have hz : HZ g x _ y14 := by rw [ey14]; exact hz
  refine g_aload_n C tb_X1_init_0_ok (i := 11) rfl rfl ?_
  obtain ⟨g15, h⟩ := gd_e h
  refine g_new C tb_X1_init_0_ok (i := 12) hz rfl cls_5 cnw_5 ck_X1_15 ins_5 ini_5 (Or.inr g15) rfl rfl (fun hz => ?_)
  refine g_nm (fun y16 ey16 M17 eM17 => ?_)
  have h := lt_e eM17 (lt_e ey16 h)
  rw [← ey16] at hz
  refine g_dup C tb_X1_init_0_ok (i := 13) rfl rfl ?_
  obtain ⟨y18, M19, ey18, h⟩ := ci_e h
  refine g_callI C tb_X1_init_0_ok (i := 14) [] hz rfl mw_X5_init mi_X5_init mli_X1_17 rfl rfl rfl rfl (w_X5_init C.G y16 (y14.2.2 + 1) M17) ey18 rfl rfl rfl (fun hz => ?_)
  obtain ⟨k20, h⟩ := gK_e h
  obtain ⟨n21, h⟩ := gN_e h
  refine g_putF C tb_X1_init_0_ok R (i := 15) rfl ff_X1_22 ft_1_8 (Or.inl ⟨_, rfl⟩) rfl n21 k20 ?_
  refine g_nmy (fun y22 ey22 => ?_)
  have h := lt_e ey22 h
  have hz : HZ g x _ y22 := by rw [ey22]; exact hz
  refine g_aload_n C tb_X1_init_0_ok (i := 16) rfl rfl ?_
  obtain ⟨k23, h⟩ := gK_e h
  obtain ⟨r24, M25, er24, h⟩ := c0_e h
  refine g_callV0 C tb_X1_init_0_ok (i := 17) [] rfl mw_X1_begin mv_X1_begin ml_X1_25 k23 rfl rfl rfl rfl (w_X1_begin C.G y22 a0 M19) er24 rfl rfl rfl ?_
  cases h
  exact g_vretI C R hz rfl (by have h8 : x.2.2.2.2.1.heap.size + 0 = bs g + y.2.2 := hz0; have h9 : x.2.2.2.2.1.heap.size + _ = bs g + _ := hz; omega) rfl tb_X1_init_0_ok (i := 18) rfl
def f_X8_begin (y : Lay) (a0 : Nat) (M : Mem) : Option (Int32 × Mem) := fixN (fun _ _ => none) (fun (s3 : Int32 → Mem → Option (Int32 × Mem)) (v1 : Int32) (M2 : Mem) => br ((30 : Int32) ≤ v1) (fixN (fun _ _ => none) (fun (s9 : Int32 → Mem → Option (Int32 × Mem)) (v7 : Int32) (M8 : Mem) => br ((6 : Int32) ≤ v7) (gK y a0 (0, 8) (lt (wI M8 a0 7 (0 : Int32)) fun (M14 : Mem) => lt (wI M14 a0 8 (0 : Int32)) fun (M15 : Mem) => lt (wI M15 a0 9 (20 : Int32)) fun (M16 : Mem) => lt (wI M16 a0 10 (0 : Int32)) fun (M17 : Mem) => lt (wI M17 a0 11 (0 : Int32)) fun (M18 : Mem) => lt (wI M18 a0 12 (0 : Int32)) fun (M19 : Mem) => some (0, M19))) (gK y a0 (0, 8) (gN (y.2.1 a0 4) (gA y (y.2.1 a0 4) 1 v7 (lt (wI M8 (y.2.1 a0 4) v7.toNatClampNeg (0 : Int32)) fun (M23 : Mem) => gN (y.2.1 a0 5) (gA y (y.2.1 a0 5) 1 v7 (lt (wI M23 (y.2.1 a0 5) v7.toNatClampNeg (0 : Int32)) fun (M26 : Mem) => lt (v7 + (1 : Int32)) fun (v27 : Int32) => s9 v27 M26))))))) FUEL (0 : Int32) M2) (gK y a0 (0, 8) (gN (y.2.1 a0 1) (gA y (y.2.1 a0 1) 1 v1 (lt (wI M2 (y.2.1 a0 1) v1.toNatClampNeg (0 : Int32)) fun (M31 : Mem) => lt (v1 + (1 : Int32)) fun (v32 : Int32) => s3 v32 M31))))) FUEL (0 : Int32) M
theorem w_X8_begin {g : GX} {l : Launch} (hG : GF g l) (y : Lay) (a0 : Nat) (M : Mem) : C0 g l yX8_begin cX8_begin 2 none 0 y [.ref a0] M (f_X8_begin y a0 M) := by
  refine C0_of hG (by decide) [some (.ref a0), none] rfl rfl (fun out h x Q C R => ?_)
  unfold f_X8_begin at h
  refine g_iconstv C tb_X8_begin_0_ok (i := 0) 0 rfl k_iconstv_0 ?_
  refine g_istore_n C tb_X8_begin_0_ok (i := 1) rfl rfl rfl ?_
  refine g_less (L' := [some (.ref a0), some (.int (0 : Int32))]) ⟨rfl, ⟨rfl, trivial⟩⟩ ?_
  refine fix_i (P := fun (f : Int32 → Mem → Option (Int32 × Mem)) => ∀ (v1 : Int32) (M2 : Mem), f v1 M2 = some out → GG g x 2 Q 0 0 y M2 2 [some (.ref a0), some (.int v1)] []) ?_ ?_ _ (0 : Int32) M h
  · intro v1 M2 h; exact (nn_e h).elim
  · intro s3 ih4 v1 M2 h
    refine g_iload_n C tb_X8_begin_0_ok (i := 2) rfl rfl ?_
    refine g_bipushv C tb_X8_begin_0_ok (i := 3) 30 rfl k_bipushv_30 ?_
    obtain ⟨t5, f6⟩ := br_e h
    refine g_icmp_ge C tb_X8_begin_0_ok (i := 4) 21 rfl rfl (fun c => ?_) (fun c => ?_)
    · have h := t5 c
      refine g_iconstv C tb_X8_begin_0_ok (i := 12) 0 rfl k_iconstv_0 ?_
      refine g_istore_n C tb_X8_begin_0_ok (i := 13) rfl rfl rfl ?_
      refine g_less (L' := [some (.ref a0), some (.int (0 : Int32))]) ⟨rfl, ⟨rfl, trivial⟩⟩ ?_
      refine fix_i (P := fun (f : Int32 → Mem → Option (Int32 × Mem)) => ∀ (v7 : Int32) (M8 : Mem), f v7 M8 = some out → GG g x 2 Q 0 0 y M8 23 [some (.ref a0), some (.int v7)] []) ?_ ?_ _ (0 : Int32) M2 h
      · intro v7 M8 h; exact (nn_e h).elim
      · intro s9 ih10 v7 M8 h
        refine g_iload_n C tb_X8_begin_0_ok (i := 14) rfl rfl ?_
        refine g_bipushv C tb_X8_begin_0_ok (i := 15) 6 rfl k_bipushv_6 ?_
        obtain ⟨t11, f12⟩ := br_e h
        refine g_icmp_ge C tb_X8_begin_0_ok (i := 16) 49 rfl rfl (fun c => ?_) (fun c => ?_)
        · have h := t11 c
          refine g_aload_n C tb_X8_begin_0_ok (i := 29) rfl rfl ?_
          refine g_iconstv C tb_X8_begin_0_ok (i := 30) 0 rfl k_iconstv_0 ?_
          obtain ⟨k13, h⟩ := gK_e h
          refine g_putI C tb_X8_begin_0_ok (i := 31) rfl fl_X8_39 ft_8_7 rfl k13 ?_
          refine g_mem (fun M14 eM14 => ?_)
          have h := lt_e eM14 h
          refine g_aload_n C tb_X8_begin_0_ok (i := 32) rfl rfl ?_
          refine g_iconstv C tb_X8_begin_0_ok (i := 33) 0 rfl k_iconstv_0 ?_
          refine g_putI C tb_X8_begin_0_ok (i := 34) rfl fl_X8_43 ft_8_8 rfl k13 ?_
          refine g_mem (fun M15 eM15 => ?_)
          have h := lt_e eM15 h
          refine g_aload_n C tb_X8_begin_0_ok (i := 35) rfl rfl ?_
          refine g_bipushv C tb_X8_begin_0_ok (i := 36) 20 rfl k_bipushv_20 ?_
          refine g_putI C tb_X8_begin_0_ok (i := 37) rfl fl_X8_46 ft_8_9 rfl k13 ?_
          refine g_mem (fun M16 eM16 => ?_)
          have h := lt_e eM16 h
          refine g_aload_n C tb_X8_begin_0_ok (i := 38) rfl rfl ?_
          refine g_iconstv C tb_X8_begin_0_ok (i := 39) 0 rfl k_iconstv_0 ?_
          refine g_putI C tb_X8_begin_1_ok (i := 0) rfl fl_X8_49 ft_8_10 rfl k13 ?_
          refine g_mem (fun M17 eM17 => ?_)
          have h := lt_e eM17 h
          refine g_aload_n C tb_X8_begin_1_ok (i := 1) rfl rfl ?_
          refine g_iconstv C tb_X8_begin_1_ok (i := 2) 0 rfl k_iconstv_0 ?_
          refine g_putI C tb_X8_begin_1_ok (i := 3) rfl fl_X8_52 ft_8_11 rfl k13 ?_
          refine g_mem (fun M18 eM18 => ?_)
          have h := lt_e eM18 h
          refine g_aload_n C tb_X8_begin_1_ok (i := 4) rfl rfl ?_
          refine g_iconstv C tb_X8_begin_1_ok (i := 5) 0 rfl k_iconstv_0 ?_
          refine g_putI C tb_X8_begin_1_ok (i := 6) rfl fl_X8_55 ft_8_12 rfl k13 ?_
          refine g_mem (fun M19 eM19 => ?_)
          have h := lt_e eM19 h
          cases h
          exact g_vret0 C R tb_X8_begin_1_ok (i := 7) rfl
        · have h := f12 c
          refine g_aload_n C tb_X8_begin_0_ok (i := 17) rfl rfl ?_
          obtain ⟨k20, h⟩ := gK_e h
          obtain ⟨n21, h⟩ := gN_e h
          refine g_getR C tb_X8_begin_0_ok (i := 18) rfl fl_X8_21 rfl k20 n21 ?_
          refine g_iload_n C tb_X8_begin_0_ok (i := 19) rfl rfl ?_
          refine g_iconstv C tb_X8_begin_0_ok (i := 20) 0 rfl k_iconstv_0 ?_
          obtain ⟨b22, h⟩ := gA_e h
          refine g_iast C tb_X8_begin_0_ok (i := 21) rfl b22 ?_
          refine g_mem (fun M23 eM23 => ?_)
          have h := lt_e eM23 h
          refine g_aload_n C tb_X8_begin_0_ok (i := 22) rfl rfl ?_
          obtain ⟨n24, h⟩ := gN_e h
          refine g_getR C tb_X8_begin_0_ok (i := 23) rfl fl_X8_24 rfl k20 n24 ?_
          refine g_iload_n C tb_X8_begin_0_ok (i := 24) rfl rfl ?_
          refine g_iconstv C tb_X8_begin_0_ok (i := 25) 0 rfl k_iconstv_0 ?_
          obtain ⟨b25, h⟩ := gA_e h
          refine g_iast C tb_X8_begin_0_ok (i := 26) rfl b25 ?_
          refine g_mem (fun M26 eM26 => ?_)
          have h := lt_e eM26 h
          obtain ⟨v27, ev27⟩ : ∃ w : Int32, w = v7 + (1 : Int32) := ⟨_, rfl⟩
          have h := lt_e ev27 h
          refine g_iincv C tb_X8_begin_0_ok (i := 27) (1 : Int32) ev27 rfl rfl k_iconstv_1 rfl rfl ?_
          refine g_goto C tb_X8_begin_0_ok (i := 28) 23 rfl rfl ?_
          exact g_less (L' := [some (.ref a0), some (.int v27)]) ⟨rfl, ⟨rfl, trivial⟩⟩ (ih10 v27 M26 h)
    · have h := f6 c
      refine g_aload_n C tb_X8_begin_0_ok (i := 5) rfl rfl ?_
      obtain ⟨k28, h⟩ := gK_e h
      obtain ⟨n29, h⟩ := gN_e h
      refine g_getR C tb_X8_begin_0_ok (i := 6) rfl fl_X8_9 rfl k28 n29 ?_
      refine g_iload_n C tb_X8_begin_0_ok (i := 7) rfl rfl ?_
      refine g_iconstv C tb_X8_begin_0_ok (i := 8) 0 rfl k_iconstv_0 ?_
      obtain ⟨b30, h⟩ := gA_e h
      refine g_iast C tb_X8_begin_0_ok (i := 9) rfl b30 ?_
      refine g_mem (fun M31 eM31 => ?_)
      have h := lt_e eM31 h
      obtain ⟨v32, ev32⟩ : ∃ w : Int32, w = v1 + (1 : Int32) := ⟨_, rfl⟩
      have h := lt_e ev32 h
      refine g_iincv C tb_X8_begin_0_ok (i := 10) (1 : Int32) ev32 rfl rfl k_iconstv_1 rfl rfl ?_
      refine g_goto C tb_X8_begin_0_ok (i := 11) 2 rfl rfl ?_
      exact g_less (L' := [some (.ref a0), some (.int v32)]) ⟨rfl, ⟨rfl, trivial⟩⟩ (ih4 v32 M31 h)
def f_X8_init (y : Lay) (a0 : Nat) (a1 : Nat) (M : Mem) : Option (Lay × Mem) := gd (y.2.2 + 2 ≤ 1000) (lt (psh y (1, 30)) fun (y2 : Lay) => lt (zM M (y.2.2 + 1)) fun (M3 : Mem) => gK y2 a0 (0, 8) (gN (y.2.2 + 1) (lt (wF y2 a0 1 (y.2.2 + 1)) fun (y6 : Lay) => gd (y6.2.2 + 2 ≤ 1000) (lt (psh y6 (1, 30)) fun (y8 : Lay) => lt (zM M3 (y6.2.2 + 1)) fun (M9 : Mem) => gK y8 a0 (0, 8) (gN (y6.2.2 + 1) (lt (wF y8 a0 2 (y6.2.2 + 1)) fun (y12 : Lay) => gd (y12.2.2 + 2 ≤ 1000) (lt (psh y12 (1, 30)) fun (y14 : Lay) => lt (zM M9 (y12.2.2 + 1)) fun (M15 : Mem) => gK y14 a0 (0, 8) (gN (y12.2.2 + 1) (lt (wF y14 a0 3 (y12.2.2 + 1)) fun (y18 : Lay) => gd (y18.2.2 + 2 ≤ 1000) (lt (psh y18 (1, 6)) fun (y20 : Lay) => lt (zM M15 (y18.2.2 + 1)) fun (M21 : Mem) => gK y20 a0 (0, 8) (gN (y18.2.2 + 1) (lt (wF y20 a0 4 (y18.2.2 + 1)) fun (y24 : Lay) => gd (y24.2.2 + 2 ≤ 1000) (lt (psh y24 (1, 6)) fun (y26 : Lay) => lt (zM M21 (y24.2.2 + 1)) fun (M27 : Mem) => gK y26 a0 (0, 8) (gN (y24.2.2 + 1) (lt (wF y26 a0 5 (y24.2.2 + 1)) fun (y30 : Lay) => gd (y30.2.2 + 2 ≤ 1000) (lt (psh y30 (1, 6)) fun (y32 : Lay) => lt (zM M27 (y30.2.2 + 1)) fun (M33 : Mem) => gK y32 a0 (0, 8) (gN (y30.2.2 + 1) (lt (wF y32 a0 6 (y30.2.2 + 1)) fun (y36 : Lay) => gK y36 a0 (0, 8) (gN a1 (lt (wF y36 a0 0 a1) fun (y39 : Lay) => gK y39 a0 (0, 8) (c0 (f_X8_begin y39 a0 M33) fun (r41 : Int32) (M42 : Mem) => some (y39, M42))))))))))))))))))))))
theorem w_X8_init {g : GX} {l : Launch} (hG : GF g l) (y : Lay) (a0 : Nat) (a1 : Nat) (M : Mem) : CIt g l yX8_init cX8_init 2 1 6 108 y [.ref a0, .ref a1] M (f_X8_init y a0 a1 M) := by
  refine CI_of hG (by decide) rfl [some (.ref a0), some (.ref a1)] rfl rfl (fun out h x Q C R hz => ?_)
  have hz0 := hz
  unfold f_X8_init at h
  refine g_aload_n C tb_X8_init_0_ok (i := 0) rfl rfl ?_
  refine g_objI C tb_X8_init_0_ok (i := 1) rfl oi_X8_3 obj_w rfl ?_
  refine g_aload_n C tb_X8_init_0_ok (i := 2) rfl rfl ?_
  refine g_bipushv C tb_X8_init_0_ok (i := 3) 30 rfl k_bipushv_30 ?_
  obtain ⟨g1, h⟩ := gd_e h
  refine g_newaI C tb_X8_init_0_ok (i := 4) (N := 30) hz rfl acl_int (by decide) (by decide) rfl g1 rfl rfl (fun hz => ?_)
  refine g_nm (fun y2 ey2 M3 eM3 => ?_)
  have h := lt_e eM3 (lt_e ey2 h)
  rw [← ey2] at hz
  obtain ⟨k4, h⟩ := gK_e h
  obtain ⟨n5, h⟩ := gN_e h
  refine g_putF C tb_X8_init_0_ok R (i := 5) rfl ff_X8_9 ft_8_1 (Or.inr ⟨_, rfl⟩) rfl n5 k4 ?_
  refine g_nmy (fun y6 ey6 => ?_)
  have h := lt_e ey6 h
  have hz : HZ g x _ y6 := by rw [ey6]; exact hz
  refine g_aload_n C tb_X8_init_0_ok (i := 6) rfl rfl ?_
  refine g_bipushv C tb_X8_init_0_ok (i := 7) 30 rfl k_bipushv_30 ?_
  obtain ⟨g7, h⟩ := gd_e h
  refine g_newaI C tb_X8_init_0_ok (i := 8) (N := 30) hz rfl acl_int (by decide) (by decide) rfl g7 rfl rfl (fun hz => ?_)
  refine g_nm (fun y8 ey8 M9 eM9 => ?_)
  have h := lt_e eM9 (lt_e ey8 h)
  rw [← ey8] at hz
  obtain ⟨k10, h⟩ := gK_e h
  obtain ⟨n11, h⟩ := gN_e h
  refine g_putF C tb_X8_init_0_ok R (i := 9) rfl ff_X8_15 ft_8_2 (Or.inr ⟨_, rfl⟩) rfl n11 k10 ?_
  refine g_nmy (fun y12 ey12 => ?_)
  have h := lt_e ey12 h
  have hz : HZ g x _ y12 := by rw [ey12]; exact hz
  refine g_aload_n C tb_X8_init_0_ok (i := 10) rfl rfl ?_
  refine g_bipushv C tb_X8_init_0_ok (i := 11) 30 rfl k_bipushv_30 ?_
  obtain ⟨g13, h⟩ := gd_e h
  refine g_newaI C tb_X8_init_0_ok (i := 12) (N := 30) hz rfl acl_int (by decide) (by decide) rfl g13 rfl rfl (fun hz => ?_)
  refine g_nm (fun y14 ey14 M15 eM15 => ?_)
  have h := lt_e eM15 (lt_e ey14 h)
  rw [← ey14] at hz
  obtain ⟨k16, h⟩ := gK_e h
  obtain ⟨n17, h⟩ := gN_e h
  refine g_putF C tb_X8_init_0_ok R (i := 13) rfl ff_X8_18 ft_8_3 (Or.inr ⟨_, rfl⟩) rfl n17 k16 ?_
  refine g_nmy (fun y18 ey18 => ?_)
  have h := lt_e ey18 h
  have hz : HZ g x _ y18 := by rw [ey18]; exact hz
  refine g_aload_n C tb_X8_init_0_ok (i := 14) rfl rfl ?_
  refine g_bipushv C tb_X8_init_0_ok (i := 15) 6 rfl k_bipushv_6 ?_
  obtain ⟨g19, h⟩ := gd_e h
  refine g_newaI C tb_X8_init_0_ok (i := 16) (N := 6) hz rfl acl_int (by decide) (by decide) rfl g19 rfl rfl (fun hz => ?_)
  refine g_nm (fun y20 ey20 M21 eM21 => ?_)
  have h := lt_e eM21 (lt_e ey20 h)
  rw [← ey20] at hz
  obtain ⟨k22, h⟩ := gK_e h
  obtain ⟨n23, h⟩ := gN_e h
  refine g_putF C tb_X8_init_0_ok R (i := 17) rfl ff_X8_21 ft_8_4 (Or.inr ⟨_, rfl⟩) rfl n23 k22 ?_
  refine g_nmy (fun y24 ey24 => ?_)
  have h := lt_e ey24 h
  have hz : HZ g x _ y24 := by rw [ey24]; exact hz
  refine g_aload_n C tb_X8_init_0_ok (i := 18) rfl rfl ?_
  refine g_bipushv C tb_X8_init_0_ok (i := 19) 6 rfl k_bipushv_6 ?_
  obtain ⟨g25, h⟩ := gd_e h
  refine g_newaI C tb_X8_init_0_ok (i := 20) (N := 6) hz rfl acl_int (by decide) (by decide) rfl g25 rfl rfl (fun hz => ?_)
  refine g_nm (fun y26 ey26 M27 eM27 => ?_)
  have h := lt_e eM27 (lt_e ey26 h)
  rw [← ey26] at hz
  obtain ⟨k28, h⟩ := gK_e h
  obtain ⟨n29, h⟩ := gN_e h
  refine g_putF C tb_X8_init_0_ok R (i := 21) rfl ff_X8_24 ft_8_5 (Or.inr ⟨_, rfl⟩) rfl n29 k28 ?_
  refine g_nmy (fun y30 ey30 => ?_)
  have h := lt_e ey30 h
  have hz : HZ g x _ y30 := by rw [ey30]; exact hz
  refine g_aload_n C tb_X8_init_0_ok (i := 22) rfl rfl ?_
  refine g_bipushv C tb_X8_init_0_ok (i := 23) 6 rfl k_bipushv_6 ?_
  obtain ⟨g31, h⟩ := gd_e h
  refine g_newaI C tb_X8_init_0_ok (i := 24) (N := 6) hz rfl acl_int (by decide) (by decide) rfl g31 rfl rfl (fun hz => ?_)
  refine g_nm (fun y32 ey32 M33 eM33 => ?_)
  have h := lt_e eM33 (lt_e ey32 h)
  rw [← ey32] at hz
  obtain ⟨k34, h⟩ := gK_e h
  obtain ⟨n35, h⟩ := gN_e h
  refine g_putF C tb_X8_init_0_ok R (i := 25) rfl ff_X8_29 ft_8_6 (Or.inr ⟨_, rfl⟩) rfl n35 k34 ?_
  refine g_nmy (fun y36 ey36 => ?_)
  have h := lt_e ey36 h
  have hz : HZ g x _ y36 := by rw [ey36]; exact hz
  refine g_aload_n C tb_X8_init_0_ok (i := 26) rfl rfl ?_
  refine g_aload_n C tb_X8_init_0_ok (i := 27) rfl rfl ?_
  obtain ⟨k37, h⟩ := gK_e h
  obtain ⟨n38, h⟩ := gN_e h
  refine g_putF C tb_X8_init_0_ok R (i := 28) rfl ff_X8_32 ft_8_0 (Or.inl ⟨_, rfl⟩) rfl n38 k37 ?_
  refine g_nmy (fun y39 ey39 => ?_)
  have h := lt_e ey39 h
  have hz : HZ g x _ y39 := by rw [ey39]; exact hz
  refine g_aload_n C tb_X8_init_0_ok (i := 29) rfl rfl ?_
  obtain ⟨k40, h⟩ := gK_e h
  obtain ⟨r41, M42, er41, h⟩ := c0_e h
  refine g_callV0 C tb_X8_init_0_ok (i := 30) [] rfl mw_X8_begin mv_X8_begin ml_X8_36 k40 rfl rfl rfl rfl (w_X8_begin C.G y39 a0 M33) er41 rfl rfl rfl ?_
  cases h
  exact g_vretI C R hz rfl (by have h8 : x.2.2.2.2.1.heap.size + 0 = bs g + y.2.2 := hz0; have h9 : x.2.2.2.2.1.heap.size + _ = bs g + _ := hz; omega) rfl tb_X8_init_0_ok (i := 31) rfl
def f_X10_init (y : Lay) (a0 : Nat) (a1 : Nat) (M : Mem) : Option (Lay × Mem) := gK y a0 (0, 10) (gN a1 (lt (wF y a0 0 a1) fun (y3 : Lay) => some (y3, M)))
theorem w_X10_init {g : GX} {l : Launch} (hG : GF g l) (y : Lay) (a0 : Nat) (a1 : Nat) (M : Mem) : CIt g l yX10_init cX10_init 2 0 0 0 y [.ref a0, .ref a1] M (f_X10_init y a0 a1 M) := by
  refine CI_of hG (by decide) rfl [some (.ref a0), some (.ref a1)] rfl rfl (fun out h x Q C R hz => ?_)
  have hz0 := hz
  unfold f_X10_init at h
  refine g_aload_n C tb_X10_init_0_ok (i := 0) rfl rfl ?_
  refine g_objI C tb_X10_init_0_ok (i := 1) rfl oi_X10_3 obj_w rfl ?_
  refine g_aload_n C tb_X10_init_0_ok (i := 2) rfl rfl ?_
  refine g_aload_n C tb_X10_init_0_ok (i := 3) rfl rfl ?_
  obtain ⟨k1, h⟩ := gK_e h
  obtain ⟨n2, h⟩ := gN_e h
  refine g_putF C tb_X10_init_0_ok R (i := 4) rfl ff_X10_9 ft_10_0 (Or.inl ⟨_, rfl⟩) rfl n2 k1 ?_
  refine g_nmy (fun y3 ey3 => ?_)
  have h := lt_e ey3 h
  have hz : HZ g x _ y3 := by rw [ey3]; exact hz
  cases h
  exact g_vretI C R hz rfl (by have h8 : x.2.2.2.2.1.heap.size + 0 = bs g + y.2.2 := hz0; have h9 : x.2.2.2.2.1.heap.size + _ = bs g + _ := hz; omega) rfl tb_X10_init_0_ok (i := 5) rfl
def f_X6_init (y : Lay) (a0 : Nat) (a1 : Nat) (a2 : Nat) (M : Mem) : Option (Lay × Mem) := gK y a0 (0, 6) (gN a1 (lt (wF y a0 0 a1) fun (y3 : Lay) => gK y3 a0 (0, 6) (gN a2 (lt (wR M a0 1 a2) fun (M6 : Mem) => some (y3, M6)))))
theorem w_X6_init {g : GX} {l : Launch} (hG : GF g l) (y : Lay) (a0 : Nat) (a1 : Nat) (a2 : Nat) (M : Mem) : CIt g l yX6_init cX6_init 3 0 0 0 y [.ref a0, .ref a1, .ref a2] M (f_X6_init y a0 a1 a2 M) := by
  refine CI_of hG (by decide) rfl [some (.ref a0), some (.ref a1), some (.ref a2)] rfl rfl (fun out h x Q C R hz => ?_)
  have hz0 := hz
  unfold f_X6_init at h
  refine g_aload_n C tb_X6_init_0_ok (i := 0) rfl rfl ?_
  refine g_objI C tb_X6_init_0_ok (i := 1) rfl oi_X6_3 obj_w rfl ?_
  refine g_aload_n C tb_X6_init_0_ok (i := 2) rfl rfl ?_
  refine g_aload_n C tb_X6_init_0_ok (i := 3) rfl rfl ?_
  obtain ⟨k1, h⟩ := gK_e h
  obtain ⟨n2, h⟩ := gN_e h
  refine g_putF C tb_X6_init_0_ok R (i := 4) rfl ff_X6_9 ft_6_0 (Or.inl ⟨_, rfl⟩) rfl n2 k1 ?_
  refine g_nmy (fun y3 ey3 => ?_)
  have h := lt_e ey3 h
  have hz : HZ g x _ y3 := by rw [ey3]; exact hz
  refine g_aload_n C tb_X6_init_0_ok (i := 5) rfl rfl ?_
  refine g_aload_n C tb_X6_init_0_ok (i := 6) rfl rfl ?_
  obtain ⟨k4, h⟩ := gK_e h
  obtain ⟨n5, h⟩ := gN_e h
  refine g_putM C tb_X6_init_0_ok (i := 7) rfl fl_X6_15 ft_6_1 (Or.inl ⟨_, rfl⟩) rfl n5 k4 ?_
  refine g_mem (fun M6 eM6 => ?_)
  have h := lt_e eM6 h
  cases h
  exact g_vretI C R hz rfl (by have h8 : x.2.2.2.2.1.heap.size + 0 = bs g + y.2.2 := hz0; have h9 : x.2.2.2.2.1.heap.size + _ = bs g + _ := hz; omega) rfl tb_X6_init_0_ok (i := 8) rfl
def f_X2_init (y : Lay) (a0 : Nat) (a1 : Nat) (M : Mem) : Option (Lay × Mem) := gd (y.2.2 + 2 ≤ 1000) (lt (psh y (0, 1)) fun (y2 : Lay) => lt (zM M (y.2.2 + 1)) fun (M3 : Mem) => ci (f_X1_init y2 (y.2.2 + 1) M3) fun (y4 : Lay) (M5 : Mem) => gK y4 a0 (0, 2) (gN (y.2.2 + 1) (lt (wF y4 a0 2 (y.2.2 + 1)) fun (y8 : Lay) => gd (y8.2.2 + 2 ≤ 1000) (lt (psh y8 (0, 8)) fun (y10 : Lay) => lt (zM M5 (y8.2.2 + 1)) fun (M11 : Mem) => gK y10 a0 (0, 2) (gN (y10.2.1 a0 2) (ci (f_X8_init y10 (y8.2.2 + 1) (y10.2.1 a0 2) M11) fun (y14 : Lay) (M15 : Mem) => gK y14 a0 (0, 2) (gN (y8.2.2 + 1) (lt (wF y14 a0 3 (y8.2.2 + 1)) fun (y18 : Lay) => gd (y18.2.2 + 2 ≤ 1000) (lt (psh y18 (0, 10)) fun (y20 : Lay) => lt (zM M15 (y18.2.2 + 1)) fun (M21 : Mem) => ci (f_X10_init y20 (y18.2.2 + 1) a1 M21) fun (y22 : Lay) (M23 : Mem) => gK y22 a0 (0, 2) (gN (y18.2.2 + 1) (lt (wF y22 a0 0 (y18.2.2 + 1)) fun (y26 : Lay) => gd (y26.2.2 + 2 ≤ 1000) (lt (psh y26 (0, 6)) fun (y28 : Lay) => lt (zM M23 (y26.2.2 + 1)) fun (M29 : Mem) => gK y28 a0 (0, 2) (gN (y28.2.1 a0 0) (gN (y28.2.1 a0 2) (gK y28 (y28.2.1 a0 2) (0, 1) (gN (y28.2.1 (y28.2.1 a0 2) 7) (ci (f_X6_init y28 (y26.2.2 + 1) (y28.2.1 a0 0) (y28.2.1 (y28.2.1 a0 2) 7) M29) fun (y35 : Lay) (M36 : Mem) => gK y35 a0 (0, 2) (gN (y26.2.2 + 1) (lt (wF y35 a0 1 (y26.2.2 + 1)) fun (y39 : Lay) => some (y39, M36))))))))))))))))))))
theorem w_X2_init {g : GX} {l : Launch} (hG : GF g l) (y : Lay) (a0 : Nat) (a1 : Nat) (M : Mem) : CIt g l yX2_init cX2_init 2 5 17 1657 y [.ref a0, .ref a1] M (f_X2_init y a0 a1 M) := by
  refine CI_of hG (by decide) rfl [some (.ref a0), some (.ref a1)] rfl rfl (fun out h x Q C R hz => ?_)
  have hz0 := hz
  unfold f_X2_init at h
  refine g_aload_n C tb_X2_init_0_ok (i := 0) rfl rfl ?_
  refine g_objI C tb_X2_init_0_ok (i := 1) rfl oi_X2_3 obj_w rfl ?_
  refine g_aload_n C tb_X2_init_0_ok (i := 2) rfl rfl ?_
  obtain ⟨g1, h⟩ := gd_e h
  refine g_new C tb_X2_init_0_ok (i := 3) hz rfl cls_1 cnw_1 ck_X2_9 ins_1 ini_1 (Or.inr g1) rfl rfl (fun hz => ?_)
  refine g_nm (fun y2 ey2 M3 eM3 => ?_)
  have h := lt_e eM3 (lt_e ey2 h)
  rw [← ey2] at hz
  refine g_dup C tb_X2_init_0_ok (i := 4) rfl rfl ?_
  obtain ⟨y4, M5, ey4, h⟩ := ci_e h
  refine g_callI C tb_X2_init_0_ok (i := 5) [] hz rfl mw_X1_init mi_X1_init mli_X2_11 rfl rfl rfl rfl (w_X1_init C.G y2 (y.2.2 + 1) M3) ey4 rfl rfl rfl (fun hz => ?_)
  obtain ⟨k6, h⟩ := gK_e h
  obtain ⟨n7, h⟩ := gN_e h
  refine g_putF C tb_X2_init_0_ok R (i := 6) rfl ff_X2_12 ft_2_2 (Or.inl ⟨_, rfl⟩) rfl n7 k6 ?_
  refine g_nmy (fun y8 ey8 => ?_)
  have h := lt_e ey8 h
  have hz : HZ g x _ y8 := by rw [ey8]; exact hz
  refine g_aload_n C tb_X2_init_0_ok (i := 7) rfl rfl ?_
  obtain ⟨g9, h⟩ := gd_e h
  refine g_new C tb_X2_init_0_ok (i := 8) hz rfl cls_8 cnw_8 ck_X2_18 ins_8 ini_8 (Or.inr g9) rfl rfl (fun hz => ?_)
  refine g_nm (fun y10 ey10 M11 eM11 => ?_)
  have h := lt_e eM11 (lt_e ey10 h)
  rw [← ey10] at hz
  refine g_dup C tb_X2_init_0_ok (i := 9) rfl rfl ?_
  refine g_aload_n C tb_X2_init_0_ok (i := 10) rfl rfl ?_
  obtain ⟨k12, h⟩ := gK_e h
  obtain ⟨n13, h⟩ := gN_e h
  refine g_getR C tb_X2_init_0_ok (i := 11) rfl fl_X2_12 rfl k12 n13 ?_
  obtain ⟨y14, M15, ey14, h⟩ := ci_e h
  refine g_callI C tb_X2_init_0_ok (i := 12) [.ref (y10.2.1 a0 2)] hz rfl mw_X8_init mi_X8_init mli_X2_20 rfl rfl rfl rfl (w_X8_init C.G y10 (y8.2.2 + 1) (y10.2.1 a0 2) M11) ey14 rfl rfl rfl (fun hz => ?_)
  obtain ⟨k16, h⟩ := gK_e h
  obtain ⟨n17, h⟩ := gN_e h
  refine g_putF C tb_X2_init_0_ok R (i := 13) rfl ff_X2_23 ft_2_3 (Or.inl ⟨_, rfl⟩) rfl n17 k16 ?_
  refine g_nmy (fun y18 ey18 => ?_)
  have h := lt_e ey18 h
  have hz : HZ g x _ y18 := by rw [ey18]; exact hz
  refine g_aload_n C tb_X2_init_0_ok (i := 14) rfl rfl ?_
  obtain ⟨g19, h⟩ := gd_e h
  refine g_new C tb_X2_init_0_ok (i := 15) hz rfl cls_10 cnw_10 ck_X2_27 ins_10 ini_10 (Or.inr g19) rfl rfl (fun hz => ?_)
  refine g_nm (fun y20 ey20 M21 eM21 => ?_)
  have h := lt_e eM21 (lt_e ey20 h)
  rw [← ey20] at hz
  refine g_dup C tb_X2_init_0_ok (i := 16) rfl rfl ?_
  refine g_aload_n C tb_X2_init_0_ok (i := 17) rfl rfl ?_
  obtain ⟨y22, M23, ey22, h⟩ := ci_e h
  refine g_callI C tb_X2_init_0_ok (i := 18) [.ref a1] hz rfl mw_X10_init mi_X10_init mli_X2_29 rfl rfl rfl rfl (w_X10_init C.G y20 (y18.2.2 + 1) a1 M21) ey22 rfl rfl rfl (fun hz => ?_)
  obtain ⟨k24, h⟩ := gK_e h
  obtain ⟨n25, h⟩ := gN_e h
  refine g_putF C tb_X2_init_0_ok R (i := 19) rfl ff_X2_32 ft_2_0 (Or.inl ⟨_, rfl⟩) rfl n25 k24 ?_
  refine g_nmy (fun y26 ey26 => ?_)
  have h := lt_e ey26 h
  have hz : HZ g x _ y26 := by rw [ey26]; exact hz
  refine g_aload_n C tb_X2_init_0_ok (i := 20) rfl rfl ?_
  obtain ⟨g27, h⟩ := gd_e h
  refine g_new C tb_X2_init_0_ok (i := 21) hz rfl cls_6 cnw_6 ck_X2_36 ins_6 ini_6 (Or.inr g27) rfl rfl (fun hz => ?_)
  refine g_nm (fun y28 ey28 M29 eM29 => ?_)
  have h := lt_e eM29 (lt_e ey28 h)
  rw [← ey28] at hz
  refine g_dup C tb_X2_init_0_ok (i := 22) rfl rfl ?_
  refine g_aload_n C tb_X2_init_0_ok (i := 23) rfl rfl ?_
  obtain ⟨k30, h⟩ := gK_e h
  obtain ⟨n31, h⟩ := gN_e h
  refine g_getR C tb_X2_init_0_ok (i := 24) rfl fl_X2_32 rfl k30 n31 ?_
  refine g_aload_n C tb_X2_init_0_ok (i := 25) rfl rfl ?_
  obtain ⟨n32, h⟩ := gN_e h
  refine g_getR C tb_X2_init_0_ok (i := 26) rfl fl_X2_12 rfl k30 n32 ?_
  obtain ⟨k33, h⟩ := gK_e h
  obtain ⟨n34, h⟩ := gN_e h
  refine g_getR C tb_X2_init_0_ok (i := 27) rfl fl_X2_38 rfl k33 n34 ?_
  obtain ⟨y35, M36, ey35, h⟩ := ci_e h
  refine g_callI C tb_X2_init_0_ok (i := 28) [.ref (y28.2.1 a0 0), .ref (y28.2.1 (y28.2.1 a0 2) 7)] hz rfl mw_X6_init mi_X6_init mli_X2_42 rfl rfl rfl rfl (w_X6_init C.G y28 (y26.2.2 + 1) (y28.2.1 a0 0) (y28.2.1 (y28.2.1 a0 2) 7) M29) ey35 rfl rfl rfl (fun hz => ?_)
  obtain ⟨k37, h⟩ := gK_e h
  obtain ⟨n38, h⟩ := gN_e h
  refine g_putF C tb_X2_init_0_ok R (i := 29) rfl ff_X2_45 ft_2_1 (Or.inl ⟨_, rfl⟩) rfl n38 k37 ?_
  refine g_nmy (fun y39 ey39 => ?_)
  have h := lt_e ey39 h
  have hz : HZ g x _ y39 := by rw [ey39]; exact hz
  cases h
  exact g_vretI C R hz rfl (by have h8 : x.2.2.2.2.1.heap.size + 0 = bs g + y.2.2 := hz0; have h9 : x.2.2.2.2.1.heap.size + _ = bs g + _ := hz; omega) rfl tb_X2_init_0_ok (i := 30) rfl
def f_X0_init (y : Lay) (a0 : Nat) (M : Mem) : Option (Lay × Mem) := gd (y.2.2 + 2 ≤ 1000) (lt (psh y (1, 1640)) fun (y2 : Lay) => lt (zM M (y.2.2 + 1)) fun (M3 : Mem) => gK y2 a0 (0, 0) (gN (y.2.2 + 1) (lt (wF y2 a0 0 (y.2.2 + 1)) fun (y6 : Lay) => some (y6, M3))))
theorem w_X0_init {g : GX} {l : Launch} (hG : GF g l) (y : Lay) (a0 : Nat) (M : Mem) : CIt g l yX0_init cX0_init 1 0 1 1640 y [.ref a0] M (f_X0_init y a0 M) := by
  refine CI_of hG (by decide) rfl [some (.ref a0)] rfl rfl (fun out h x Q C R hz => ?_)
  have hz0 := hz
  unfold f_X0_init at h
  refine g_aload_n C tb_X0_init_0_ok (i := 0) rfl rfl ?_
  refine g_objI C tb_X0_init_0_ok (i := 1) rfl oi_X0_3 obj_w rfl ?_
  refine g_aload_n C tb_X0_init_0_ok (i := 2) rfl rfl ?_
  refine g_sipushv C tb_X0_init_0_ok (i := 3) 1640 rfl k_sipushv_1640 ?_
  obtain ⟨g1, h⟩ := gd_e h
  refine g_newaI C tb_X0_init_0_ok (i := 4) (N := 1640) hz rfl acl_int (by decide) (by decide) rfl g1 rfl rfl (fun hz => ?_)
  refine g_nm (fun y2 ey2 M3 eM3 => ?_)
  have h := lt_e eM3 (lt_e ey2 h)
  rw [← ey2] at hz
  obtain ⟨k4, h⟩ := gK_e h
  obtain ⟨n5, h⟩ := gN_e h
  refine g_putF C tb_X0_init_0_ok R (i := 5) rfl ff_X0_11 ft_0_0 (Or.inr ⟨_, rfl⟩) rfl n5 k4 ?_
  refine g_nmy (fun y6 ey6 => ?_)
  have h := lt_e ey6 h
  have hz : HZ g x _ y6 := by rw [ey6]; exact hz
  cases h
  exact g_vretI C R hz rfl (by have h8 : x.2.2.2.2.1.heap.size + 0 = bs g + y.2.2 := hz0; have h9 : x.2.2.2.2.1.heap.size + _ = bs g + _ := hz; omega) rfl tb_X0_init_0_ok (i := 6) rfl
def f_X4_init (y : Lay) (a0 : Nat) (a1 : Nat) (M : Mem) : Option (Lay × Mem) := gd (y.2.2 + 2 ≤ 1000) (lt (psh y (0, 0)) fun (y2 : Lay) => lt (zM M (y.2.2 + 1)) fun (M3 : Mem) => ci (f_X0_init y2 (y.2.2 + 1) M3) fun (y4 : Lay) (M5 : Mem) => gK y4 a0 (0, 4) (gN (y.2.2 + 1) (lt (wF y4 a0 1 (y.2.2 + 1)) fun (y8 : Lay) => gd (y8.2.2 + 2 ≤ 1000) (lt (psh y8 (1, 8)) fun (y10 : Lay) => lt (zM M5 (y8.2.2 + 1)) fun (M11 : Mem) => gK y10 a0 (0, 4) (gN (y8.2.2 + 1) (lt (wF y10 a0 2 (y8.2.2 + 1)) fun (y14 : Lay) => gd (y14.2.2 + 2 ≤ 1000) (lt (psh y14 (1, 8)) fun (y16 : Lay) => lt (zM M11 (y14.2.2 + 1)) fun (M17 : Mem) => gK y16 a0 (0, 4) (gN (y14.2.2 + 1) (lt (wF y16 a0 3 (y14.2.2 + 1)) fun (y20 : Lay) => gd (y20.2.2 + 2 ≤ 1000) (lt (psh y20 (1, 8)) fun (y22 : Lay) => lt (zM M17 (y20.2.2 + 1)) fun (M23 : Mem) => gK y22 a0 (0, 4) (gN (y20.2.2 + 1) (lt (wF y22 a0 4 (y20.2.2 + 1)) fun (y26 : Lay) => gd (y26.2.2 + 2 ≤ 1000) (lt (psh y26 (1, 3)) fun (y28 : Lay) => lt (zM M23 (y26.2.2 + 1)) fun (M29 : Mem) => gK y28 a0 (0, 4) (gN (y26.2.2 + 1) (lt (wF y28 a0 5 (y26.2.2 + 1)) fun (y32 : Lay) => gd (y32.2.2 + 2 ≤ 1000) (lt (psh y32 (0, 8)) fun (y34 : Lay) => lt (zM M29 (y32.2.2 + 1)) fun (M35 : Mem) => ci (f_X8_init y34 (y32.2.2 + 1) a1 M35) fun (y36 : Lay) (M37 : Mem) => gK y36 a0 (0, 4) (gN (y32.2.2 + 1) (lt (wF y36 a0 0 (y32.2.2 + 1)) fun (y40 : Lay) => some (y40, M37)))))))))))))))))))
theorem w_X4_init {g : GX} {l : Launch} (hG : GF g l) (y : Lay) (a0 : Nat) (a1 : Nat) (M : Mem) : CIt g l yX4_init cX4_init 2 2 13 1790 y [.ref a0, .ref a1] M (f_X4_init y a0 a1 M) := by
  refine CI_of hG (by decide) rfl [some (.ref a0), some (.ref a1)] rfl rfl (fun out h x Q C R hz => ?_)
  have hz0 := hz
  unfold f_X4_init at h
  refine g_aload_n C tb_X4_init_0_ok (i := 0) rfl rfl ?_
  refine g_objI C tb_X4_init_0_ok (i := 1) rfl oi_X4_3 obj_w rfl ?_
  refine g_aload_n C tb_X4_init_0_ok (i := 2) rfl rfl ?_
  obtain ⟨g1, h⟩ := gd_e h
  refine g_new C tb_X4_init_0_ok (i := 3) hz rfl cls_0 cnw_0 ck_X4_9 ins_0 ini_0 (Or.inr g1) rfl rfl (fun hz => ?_)
  refine g_nm (fun y2 ey2 M3 eM3 => ?_)
  have h := lt_e eM3 (lt_e ey2 h)
  rw [← ey2] at hz
  refine g_dup C tb_X4_init_0_ok (i := 4) rfl rfl ?_
  obtain ⟨y4, M5, ey4, h⟩ := ci_e h
  refine g_callI C tb_X4_init_0_ok (i := 5) [] hz rfl mw_X0_init mi_X0_init mli_X4_11 rfl rfl rfl rfl (w_X0_init C.G y2 (y.2.2 + 1) M3) ey4 rfl rfl rfl (fun hz => ?_)
  obtain ⟨k6, h⟩ := gK_e h
  obtain ⟨n7, h⟩ := gN_e h
  refine g_putF C tb_X4_init_0_ok R (i := 6) rfl ff_X4_12 ft_4_1 (Or.inl ⟨_, rfl⟩) rfl n7 k6 ?_
  refine g_nmy (fun y8 ey8 => ?_)
  have h := lt_e ey8 h
  have hz : HZ g x _ y8 := by rw [ey8]; exact hz
  refine g_aload_n C tb_X4_init_0_ok (i := 7) rfl rfl ?_
  refine g_bipushv C tb_X4_init_0_ok (i := 8) 8 rfl k_bipushv_8 ?_
  obtain ⟨g9, h⟩ := gd_e h
  refine g_newaI C tb_X4_init_0_ok (i := 9) (N := 8) hz rfl acl_int (by decide) (by decide) rfl g9 rfl rfl (fun hz => ?_)
  refine g_nm (fun y10 ey10 M11 eM11 => ?_)
  have h := lt_e eM11 (lt_e ey10 h)
  rw [← ey10] at hz
  obtain ⟨k12, h⟩ := gK_e h
  obtain ⟨n13, h⟩ := gN_e h
  refine g_putF C tb_X4_init_0_ok R (i := 10) rfl ff_X4_18 ft_4_2 (Or.inr ⟨_, rfl⟩) rfl n13 k12 ?_
  refine g_nmy (fun y14 ey14 => ?_)
  have h := lt_e ey14 h
  have hz : HZ g x _ y14 := by rw [ey14]; exact hz
  refine g_aload_n C tb_X4_init_0_ok (i := 11) rfl rfl ?_
  refine g_bipushv C tb_X4_init_0_ok (i := 12) 8 rfl k_bipushv_8 ?_
  obtain ⟨g15, h⟩ := gd_e h
  refine g_newaI C tb_X4_init_0_ok (i := 13) (N := 8) hz rfl acl_int (by decide) (by decide) rfl g15 rfl rfl (fun hz => ?_)
  refine g_nm (fun y16 ey16 M17 eM17 => ?_)
  have h := lt_e eM17 (lt_e ey16 h)
  rw [← ey16] at hz
  obtain ⟨k18, h⟩ := gK_e h
  obtain ⟨n19, h⟩ := gN_e h
  refine g_putF C tb_X4_init_0_ok R (i := 14) rfl ff_X4_22 ft_4_3 (Or.inr ⟨_, rfl⟩) rfl n19 k18 ?_
  refine g_nmy (fun y20 ey20 => ?_)
  have h := lt_e ey20 h
  have hz : HZ g x _ y20 := by rw [ey20]; exact hz
  refine g_aload_n C tb_X4_init_0_ok (i := 15) rfl rfl ?_
  refine g_bipushv C tb_X4_init_0_ok (i := 16) 8 rfl k_bipushv_8 ?_
  obtain ⟨g21, h⟩ := gd_e h
  refine g_newaI C tb_X4_init_0_ok (i := 17) (N := 8) hz rfl acl_int (by decide) (by decide) rfl g21 rfl rfl (fun hz => ?_)
  refine g_nm (fun y22 ey22 M23 eM23 => ?_)
  have h := lt_e eM23 (lt_e ey22 h)
  rw [← ey22] at hz
  obtain ⟨k24, h⟩ := gK_e h
  obtain ⟨n25, h⟩ := gN_e h
  refine g_putF C tb_X4_init_0_ok R (i := 18) rfl ff_X4_25 ft_4_4 (Or.inr ⟨_, rfl⟩) rfl n25 k24 ?_
  refine g_nmy (fun y26 ey26 => ?_)
  have h := lt_e ey26 h
  have hz : HZ g x _ y26 := by rw [ey26]; exact hz
  refine g_aload_n C tb_X4_init_0_ok (i := 19) rfl rfl ?_
  refine g_iconstv C tb_X4_init_0_ok (i := 20) 3 rfl k_iconstv_3 ?_
  obtain ⟨g27, h⟩ := gd_e h
  refine g_newaI C tb_X4_init_0_ok (i := 21) (N := 3) hz rfl acl_int (by decide) (by decide) rfl g27 rfl rfl (fun hz => ?_)
  refine g_nm (fun y28 ey28 M29 eM29 => ?_)
  have h := lt_e eM29 (lt_e ey28 h)
  rw [← ey28] at hz
  obtain ⟨k30, h⟩ := gK_e h
  obtain ⟨n31, h⟩ := gN_e h
  refine g_putF C tb_X4_init_0_ok R (i := 22) rfl ff_X4_28 ft_4_5 (Or.inr ⟨_, rfl⟩) rfl n31 k30 ?_
  refine g_nmy (fun y32 ey32 => ?_)
  have h := lt_e ey32 h
  have hz : HZ g x _ y32 := by rw [ey32]; exact hz
  refine g_aload_n C tb_X4_init_0_ok (i := 23) rfl rfl ?_
  obtain ⟨g33, h⟩ := gd_e h
  refine g_new C tb_X4_init_0_ok (i := 24) hz rfl cls_8 cnw_8 ck_X4_31 ins_8 ini_8 (Or.inr g33) rfl rfl (fun hz => ?_)
  refine g_nm (fun y34 ey34 M35 eM35 => ?_)
  have h := lt_e eM35 (lt_e ey34 h)
  rw [← ey34] at hz
  refine g_dup C tb_X4_init_0_ok (i := 25) rfl rfl ?_
  refine g_aload_n C tb_X4_init_0_ok (i := 26) rfl rfl ?_
  obtain ⟨y36, M37, ey36, h⟩ := ci_e h
  refine g_callI C tb_X4_init_0_ok (i := 27) [.ref a1] hz rfl mw_X8_init mi_X8_init mli_X4_33 rfl rfl rfl rfl (w_X8_init C.G y34 (y32.2.2 + 1) a1 M35) ey36 rfl rfl rfl (fun hz => ?_)
  obtain ⟨k38, h⟩ := gK_e h
  obtain ⟨n39, h⟩ := gN_e h
  refine g_putF C tb_X4_init_0_ok R (i := 28) rfl ff_X4_36 ft_4_0 (Or.inl ⟨_, rfl⟩) rfl n39 k38 ?_
  refine g_nmy (fun y40 ey40 => ?_)
  have h := lt_e ey40 h
  have hz : HZ g x _ y40 := by rw [ey40]; exact hz
  cases h
  exact g_vretI C R hz rfl (by have h8 : x.2.2.2.2.1.heap.size + 0 = bs g + y.2.2 := hz0; have h9 : x.2.2.2.2.1.heap.size + _ = bs g + _ := hz; omega) rfl tb_X4_init_0_ok (i := 29) rfl
def f_X7_init (y : Lay) (a0 : Nat) (a1 : Nat) (M : Mem) : Option (Lay × Mem) := gd (y.2.2 + 2 ≤ 1000) (lt (psh y (1, 6)) fun (y2 : Lay) => lt (zM M (y.2.2 + 1)) fun (M3 : Mem) => gK y2 a0 (0, 7) (gN (y.2.2 + 1) (lt (wF y2 a0 0 (y.2.2 + 1)) fun (y6 : Lay) => gd (y6.2.2 + 2 ≤ 1000) (lt (psh y6 (1, 6)) fun (y8 : Lay) => lt (zM M3 (y6.2.2 + 1)) fun (M9 : Mem) => gK y8 a0 (0, 7) (gN (y6.2.2 + 1) (lt (wF y8 a0 1 (y6.2.2 + 1)) fun (y12 : Lay) => gd (y12.2.2 + 2 ≤ 1000) (lt (psh y12 (1, 6)) fun (y14 : Lay) => lt (zM M9 (y12.2.2 + 1)) fun (M15 : Mem) => gK y14 a0 (0, 7) (gN (y12.2.2 + 1) (lt (wF y14 a0 2 (y12.2.2 + 1)) fun (y18 : Lay) => gK y18 a0 (0, 7) (gN a1 (lt (wF y18 a0 3 a1) fun (y21 : Lay) => some (y21, M15))))))))))))
theorem w_X7_init {g : GX} {l : Launch} (hG : GF g l) (y : Lay) (a0 : Nat) (a1 : Nat) (M : Mem) : CIt g l yX7_init cX7_init 2 0 3 18 y [.ref a0, .ref a1] M (f_X7_init y a0 a1 M) := by
  refine CI_of hG (by decide) rfl [some (.ref a0), some (.ref a1)] rfl rfl (fun out h x Q C R hz => ?_)
  have hz0 := hz
  unfold f_X7_init at h
  refine g_aload_n C tb_X7_init_0_ok (i := 0) rfl rfl ?_
  refine g_objI C tb_X7_init_0_ok (i := 1) rfl oi_X7_3 obj_w rfl ?_
  refine g_aload_n C tb_X7_init_0_ok (i := 2) rfl rfl ?_
  refine g_bipushv C tb_X7_init_0_ok (i := 3) 6 rfl k_bipushv_6 ?_
  obtain ⟨g1, h⟩ := gd_e h
  refine g_newaI C tb_X7_init_0_ok (i := 4) (N := 6) hz rfl acl_int (by decide) (by decide) rfl g1 rfl rfl (fun hz => ?_)
  refine g_nm (fun y2 ey2 M3 eM3 => ?_)
  have h := lt_e eM3 (lt_e ey2 h)
  rw [← ey2] at hz
  obtain ⟨k4, h⟩ := gK_e h
  obtain ⟨n5, h⟩ := gN_e h
  refine g_putF C tb_X7_init_0_ok R (i := 5) rfl ff_X7_9 ft_7_0 (Or.inr ⟨_, rfl⟩) rfl n5 k4 ?_
  refine g_nmy (fun y6 ey6 => ?_)
  have h := lt_e ey6 h
  have hz : HZ g x _ y6 := by rw [ey6]; exact hz
  refine g_aload_n C tb_X7_init_0_ok (i := 6) rfl rfl ?_
  refine g_bipushv C tb_X7_init_0_ok (i := 7) 6 rfl k_bipushv_6 ?_
  obtain ⟨g7, h⟩ := gd_e h
  refine g_newaI C tb_X7_init_0_ok (i := 8) (N := 6) hz rfl acl_int (by decide) (by decide) rfl g7 rfl rfl (fun hz => ?_)
  refine g_nm (fun y8 ey8 M9 eM9 => ?_)
  have h := lt_e eM9 (lt_e ey8 h)
  rw [← ey8] at hz
  obtain ⟨k10, h⟩ := gK_e h
  obtain ⟨n11, h⟩ := gN_e h
  refine g_putF C tb_X7_init_0_ok R (i := 9) rfl ff_X7_15 ft_7_1 (Or.inr ⟨_, rfl⟩) rfl n11 k10 ?_
  refine g_nmy (fun y12 ey12 => ?_)
  have h := lt_e ey12 h
  have hz : HZ g x _ y12 := by rw [ey12]; exact hz
  refine g_aload_n C tb_X7_init_0_ok (i := 10) rfl rfl ?_
  refine g_bipushv C tb_X7_init_0_ok (i := 11) 6 rfl k_bipushv_6 ?_
  obtain ⟨g13, h⟩ := gd_e h
  refine g_newaI C tb_X7_init_0_ok (i := 12) (N := 6) hz rfl acl_int (by decide) (by decide) rfl g13 rfl rfl (fun hz => ?_)
  refine g_nm (fun y14 ey14 M15 eM15 => ?_)
  have h := lt_e eM15 (lt_e ey14 h)
  rw [← ey14] at hz
  obtain ⟨k16, h⟩ := gK_e h
  obtain ⟨n17, h⟩ := gN_e h
  refine g_putF C tb_X7_init_0_ok R (i := 13) rfl ff_X7_18 ft_7_2 (Or.inr ⟨_, rfl⟩) rfl n17 k16 ?_
  refine g_nmy (fun y18 ey18 => ?_)
  have h := lt_e ey18 h
  have hz : HZ g x _ y18 := by rw [ey18]; exact hz
  refine g_aload_n C tb_X7_init_0_ok (i := 14) rfl rfl ?_
  refine g_aload_n C tb_X7_init_0_ok (i := 15) rfl rfl ?_
  obtain ⟨k19, h⟩ := gK_e h
  obtain ⟨n20, h⟩ := gN_e h
  refine g_putF C tb_X7_init_0_ok R (i := 16) rfl ff_X7_21 ft_7_3 (Or.inl ⟨_, rfl⟩) rfl n20 k19 ?_
  refine g_nmy (fun y21 ey21 => ?_)
  have h := lt_e ey21 h
  have hz : HZ g x _ y21 := by rw [ey21]; exact hz
  cases h
  exact g_vretI C R hz rfl (by have h8 : x.2.2.2.2.1.heap.size + 0 = bs g + y.2.2 := hz0; have h9 : x.2.2.2.2.1.heap.size + _ = bs g + _ := hz; omega) rfl tb_X7_init_0_ok (i := 17) rfl
def f_X3_init (y : Lay) (a0 : Nat) (M : Mem) : Option (Lay × Mem) := some (y, M)
theorem w_X3_init {g : GX} {l : Launch} (hG : GF g l) (y : Lay) (a0 : Nat) (M : Mem) : CIt g l yX3_init cX3_init 1 0 0 0 y [.ref a0] M (f_X3_init y a0 M) := by
  refine CI_of hG (by decide) rfl [some (.ref a0)] rfl rfl (fun out h x Q C R hz => ?_)
  have hz0 := hz
  unfold f_X3_init at h
  refine g_aload_n C tb_X3_init_0_ok (i := 0) rfl rfl ?_
  refine g_objI C tb_X3_init_0_ok (i := 1) rfl oi_X3_1 obj_w rfl ?_
  cases h
  exact g_vretI C R hz rfl (by have h8 : x.2.2.2.2.1.heap.size + 0 = bs g + y.2.2 := hz0; have h9 : x.2.2.2.2.1.heap.size + _ = bs g + _ := hz; omega) rfl tb_X3_init_0_ok (i := 2) rfl
def f_X11_init (y : Lay) (a0 : Nat) (M : Mem) : Option (Lay × Mem) := gd (y.2.2 + 2 ≤ 1000) (lt (psh y (0, 9)) fun (y2 : Lay) => lt (zM M (y.2.2 + 1)) fun (M3 : Mem) => ci (f_X9_init y2 (y.2.2 + 1) M3) fun (y4 : Lay) (M5 : Mem) => gK y4 a0 (0, 11) (gN (y.2.2 + 1) (lt (wF y4 a0 0 (y.2.2 + 1)) fun (y8 : Lay) => gd (y8.2.2 + 2 ≤ 1000) (lt (psh y8 (0, 1)) fun (y10 : Lay) => lt (zM M5 (y8.2.2 + 1)) fun (M11 : Mem) => ci (f_X1_init y10 (y8.2.2 + 1) M11) fun (y12 : Lay) (M13 : Mem) => gK y12 a0 (0, 11) (gN (y8.2.2 + 1) (lt (wF y12 a0 1 (y8.2.2 + 1)) fun (y16 : Lay) => gd (y16.2.2 + 2 ≤ 1000) (lt (psh y16 (0, 2)) fun (y18 : Lay) => lt (zM M13 (y16.2.2 + 1)) fun (M19 : Mem) => gK y18 a0 (0, 11) (gN (y18.2.1 a0 0) (ci (f_X2_init y18 (y16.2.2 + 1) (y18.2.1 a0 0) M19) fun (y22 : Lay) (M23 : Mem) => gK y22 a0 (0, 11) (gN (y16.2.2 + 1) (lt (wF y22 a0 2 (y16.2.2 + 1)) fun (y26 : Lay) => gd (y26.2.2 + 2 ≤ 1000) (lt (psh y26 (0, 4)) fun (y28 : Lay) => lt (zM M23 (y26.2.2 + 1)) fun (M29 : Mem) => gK y28 a0 (0, 11) (gN (y28.2.1 a0 1) (ci (f_X4_init y28 (y26.2.2 + 1) (y28.2.1 a0 1) M29) fun (y32 : Lay) (M33 : Mem) => gK y32 a0 (0, 11) (gN (y26.2.2 + 1) (lt (wF y32 a0 3 (y26.2.2 + 1)) fun (y36 : Lay) => gd (y36.2.2 + 2 ≤ 1000) (lt (psh y36 (0, 4)) fun (y38 : Lay) => lt (zM M33 (y36.2.2 + 1)) fun (M39 : Mem) => gK y38 a0 (0, 11) (gN (y38.2.1 a0 1) (ci (f_X4_init y38 (y36.2.2 + 1) (y38.2.1 a0 1) M39) fun (y42 : Lay) (M43 : Mem) => gK y42 a0 (0, 11) (gN (y36.2.2 + 1) (lt (wF y42 a0 4 (y36.2.2 + 1)) fun (y46 : Lay) => gd (y46.2.2 + 2 ≤ 1000) (lt (psh y46 (0, 8)) fun (y48 : Lay) => lt (zM M43 (y46.2.2 + 1)) fun (M49 : Mem) => gK y48 a0 (0, 11) (gN (y48.2.1 a0 1) (ci (f_X8_init y48 (y46.2.2 + 1) (y48.2.1 a0 1) M49) fun (y52 : Lay) (M53 : Mem) => gK y52 a0 (0, 11) (gN (y46.2.2 + 1) (lt (wF y52 a0 5 (y46.2.2 + 1)) fun (y56 : Lay) => gd (y56.2.2 + 2 ≤ 1000) (lt (psh y56 (0, 7)) fun (y58 : Lay) => lt (zM M53 (y56.2.2 + 1)) fun (M59 : Mem) => gK y58 a0 (0, 11) (gN (y58.2.1 a0 3) (gK y58 (y58.2.1 a0 3) (0, 4) (gN (y58.2.1 (y58.2.1 a0 3) 0) (ci (f_X7_init y58 (y56.2.2 + 1) (y58.2.1 (y58.2.1 a0 3) 0) M59) fun (y64 : Lay) (M65 : Mem) => gK y64 a0 (0, 11) (gN (y56.2.2 + 1) (lt (wF y64 a0 6 (y56.2.2 + 1)) fun (y68 : Lay) => gd (y68.2.2 + 2 ≤ 1000) (lt (psh y68 (0, 3)) fun (y70 : Lay) => lt (zM M65 (y68.2.2 + 1)) fun (M71 : Mem) => ci (f_X3_init y70 (y68.2.2 + 1) M71) fun (y72 : Lay) (M73 : Mem) => gK y72 a0 (0, 11) (gN (y68.2.2 + 1) (lt (wF y72 a0 7 (y68.2.2 + 1)) fun (y76 : Lay) => gd (y76.2.2 + 2 ≤ 1000) (lt (psh y76 (3, 30)) fun (y78 : Lay) => lt (zM M73 (y76.2.2 + 1)) fun (M79 : Mem) => gK y78 a0 (0, 11) (gN (y76.2.2 + 1) (lt (wF y78 a0 8 (y76.2.2 + 1)) fun (y82 : Lay) => gd (y82.2.2 + 2 ≤ 1000) (lt (psh y82 (3, 30)) fun (y84 : Lay) => lt (zM M79 (y82.2.2 + 1)) fun (M85 : Mem) => gK y84 a0 (0, 11) (gN (y82.2.2 + 1) (lt (wF y84 a0 9 (y82.2.2 + 1)) fun (y88 : Lay) => gd (y88.2.2 + 2 ≤ 1000) (lt (psh y88 (1, 8)) fun (y90 : Lay) => lt (zM M85 (y88.2.2 + 1)) fun (M91 : Mem) => gK y90 a0 (0, 11) (gN (y88.2.2 + 1) (lt (wF y90 a0 10 (y88.2.2 + 1)) fun (y94 : Lay) => gK y94 a0 (0, 11) (lt (wI M91 a0 12 ((-1) : Int32)) fun (M96 : Mem) => some (y94, M96)))))))))))))))))))))))))))))))))))))))))))))))
theorem w_X11_init {g : GX} {l : Launch} (hG : GF g l) (y : Lay) (a0 : Nat) (M : Mem) : CIt g l yX11_init cX11_init 1 6 71 7699 y [.ref a0] M (f_X11_init y a0 M) := by
  refine CI_of hG (by decide) rfl [some (.ref a0)] rfl rfl (fun out h x Q C R hz => ?_)
  have hz0 := hz
  unfold f_X11_init at h
  refine g_aload_n C tb_X11_init_0_ok (i := 0) rfl rfl ?_
  refine g_objI C tb_X11_init_0_ok (i := 1) rfl oi_X11_1 obj_w rfl ?_
  refine g_aload_n C tb_X11_init_0_ok (i := 2) rfl rfl ?_
  obtain ⟨g1, h⟩ := gd_e h
  refine g_new C tb_X11_init_0_ok (i := 3) hz rfl cls_9 cnw_9 ck_X11_7 ins_9 ini_9 (Or.inr g1) rfl rfl (fun hz => ?_)
  refine g_nm (fun y2 ey2 M3 eM3 => ?_)
  have h := lt_e eM3 (lt_e ey2 h)
  rw [← ey2] at hz
  refine g_dup C tb_X11_init_0_ok (i := 4) rfl rfl ?_
  obtain ⟨y4, M5, ey4, h⟩ := ci_e h
  refine g_callI C tb_X11_init_0_ok (i := 5) [] hz rfl mw_X9_init mi_X9_init mli_X11_9 rfl rfl rfl rfl (w_X9_init C.G y2 (y.2.2 + 1) M3) ey4 rfl rfl rfl (fun hz => ?_)
  obtain ⟨k6, h⟩ := gK_e h
  obtain ⟨n7, h⟩ := gN_e h
  refine g_putF C tb_X11_init_0_ok R (i := 6) rfl ff_X11_10 ft_11_0 (Or.inl ⟨_, rfl⟩) rfl n7 k6 ?_
  refine g_nmy (fun y8 ey8 => ?_)
  have h := lt_e ey8 h
  have hz : HZ g x _ y8 := by rw [ey8]; exact hz
  refine g_aload_n C tb_X11_init_0_ok (i := 7) rfl rfl ?_
  obtain ⟨g9, h⟩ := gd_e h
  refine g_new C tb_X11_init_0_ok (i := 8) hz rfl cls_1 cnw_1 ck_X11_16 ins_1 ini_1 (Or.inr g9) rfl rfl (fun hz => ?_)
  refine g_nm (fun y10 ey10 M11 eM11 => ?_)
  have h := lt_e eM11 (lt_e ey10 h)
  rw [← ey10] at hz
  refine g_dup C tb_X11_init_0_ok (i := 9) rfl rfl ?_
  obtain ⟨y12, M13, ey12, h⟩ := ci_e h
  refine g_callI C tb_X11_init_0_ok (i := 10) [] hz rfl mw_X1_init mi_X1_init mli_X11_18 rfl rfl rfl rfl (w_X1_init C.G y10 (y8.2.2 + 1) M11) ey12 rfl rfl rfl (fun hz => ?_)
  obtain ⟨k14, h⟩ := gK_e h
  obtain ⟨n15, h⟩ := gN_e h
  refine g_putF C tb_X11_init_0_ok R (i := 11) rfl ff_X11_19 ft_11_1 (Or.inl ⟨_, rfl⟩) rfl n15 k14 ?_
  refine g_nmy (fun y16 ey16 => ?_)
  have h := lt_e ey16 h
  have hz : HZ g x _ y16 := by rw [ey16]; exact hz
  refine g_aload_n C tb_X11_init_0_ok (i := 12) rfl rfl ?_
  obtain ⟨g17, h⟩ := gd_e h
  refine g_new C tb_X11_init_0_ok (i := 13) hz rfl cls_2 cnw_2 ck_X11_23 ins_2 ini_2 (Or.inr g17) rfl rfl (fun hz => ?_)
  refine g_nm (fun y18 ey18 M19 eM19 => ?_)
  have h := lt_e eM19 (lt_e ey18 h)
  rw [← ey18] at hz
  refine g_dup C tb_X11_init_0_ok (i := 14) rfl rfl ?_
  refine g_aload_n C tb_X11_init_0_ok (i := 15) rfl rfl ?_
  obtain ⟨k20, h⟩ := gK_e h
  obtain ⟨n21, h⟩ := gN_e h
  refine g_getR C tb_X11_init_0_ok (i := 16) rfl fl_X11_10 rfl k20 n21 ?_
  obtain ⟨y22, M23, ey22, h⟩ := ci_e h
  refine g_callI C tb_X11_init_0_ok (i := 17) [.ref (y18.2.1 a0 0)] hz rfl mw_X2_init mi_X2_init mli_X11_25 rfl rfl rfl rfl (w_X2_init C.G y18 (y16.2.2 + 1) (y18.2.1 a0 0) M19) ey22 rfl rfl rfl (fun hz => ?_)
  obtain ⟨k24, h⟩ := gK_e h
  obtain ⟨n25, h⟩ := gN_e h
  refine g_putF C tb_X11_init_0_ok R (i := 18) rfl ff_X11_28 ft_11_2 (Or.inl ⟨_, rfl⟩) rfl n25 k24 ?_
  refine g_nmy (fun y26 ey26 => ?_)
  have h := lt_e ey26 h
  have hz : HZ g x _ y26 := by rw [ey26]; exact hz
  refine g_aload_n C tb_X11_init_0_ok (i := 19) rfl rfl ?_
  obtain ⟨g27, h⟩ := gd_e h
  refine g_new C tb_X11_init_0_ok (i := 20) hz rfl cls_4 cnw_4 ck_X11_32 ins_4 ini_4 (Or.inr g27) rfl rfl (fun hz => ?_)
  refine g_nm (fun y28 ey28 M29 eM29 => ?_)
  have h := lt_e eM29 (lt_e ey28 h)
  rw [← ey28] at hz
  refine g_dup C tb_X11_init_0_ok (i := 21) rfl rfl ?_
  refine g_aload_n C tb_X11_init_0_ok (i := 22) rfl rfl ?_
  obtain ⟨k30, h⟩ := gK_e h
  obtain ⟨n31, h⟩ := gN_e h
  refine g_getR C tb_X11_init_0_ok (i := 23) rfl fl_X11_19 rfl k30 n31 ?_
  obtain ⟨y32, M33, ey32, h⟩ := ci_e h
  refine g_callI C tb_X11_init_0_ok (i := 24) [.ref (y28.2.1 a0 1)] hz rfl mw_X4_init mi_X4_init mli_X11_34 rfl rfl rfl rfl (w_X4_init C.G y28 (y26.2.2 + 1) (y28.2.1 a0 1) M29) ey32 rfl rfl rfl (fun hz => ?_)
  obtain ⟨k34, h⟩ := gK_e h
  obtain ⟨n35, h⟩ := gN_e h
  refine g_putF C tb_X11_init_0_ok R (i := 25) rfl ff_X11_37 ft_11_3 (Or.inl ⟨_, rfl⟩) rfl n35 k34 ?_
  refine g_nmy (fun y36 ey36 => ?_)
  have h := lt_e ey36 h
  have hz : HZ g x _ y36 := by rw [ey36]; exact hz
  refine g_aload_n C tb_X11_init_0_ok (i := 26) rfl rfl ?_
  obtain ⟨g37, h⟩ := gd_e h
  refine g_new C tb_X11_init_0_ok (i := 27) hz rfl cls_4 cnw_4 ck_X11_32 ins_4 ini_4 (Or.inr g37) rfl rfl (fun hz => ?_)
  refine g_nm (fun y38 ey38 M39 eM39 => ?_)
  have h := lt_e eM39 (lt_e ey38 h)
  rw [← ey38] at hz
  refine g_dup C tb_X11_init_0_ok (i := 28) rfl rfl ?_
  refine g_aload_n C tb_X11_init_0_ok (i := 29) rfl rfl ?_
  obtain ⟨k40, h⟩ := gK_e h
  obtain ⟨n41, h⟩ := gN_e h
  refine g_getR C tb_X11_init_0_ok (i := 30) rfl fl_X11_19 rfl k40 n41 ?_
  obtain ⟨y42, M43, ey42, h⟩ := ci_e h
  refine g_callI C tb_X11_init_0_ok (i := 31) [.ref (y38.2.1 a0 1)] hz rfl mw_X4_init mi_X4_init mli_X11_34 rfl rfl rfl rfl (w_X4_init C.G y38 (y36.2.2 + 1) (y38.2.1 a0 1) M39) ey42 rfl rfl rfl (fun hz => ?_)
  obtain ⟨k44, h⟩ := gK_e h
  obtain ⟨n45, h⟩ := gN_e h
  refine g_putF C tb_X11_init_0_ok R (i := 32) rfl ff_X11_41 ft_11_4 (Or.inl ⟨_, rfl⟩) rfl n45 k44 ?_
  refine g_nmy (fun y46 ey46 => ?_)
  have h := lt_e ey46 h
  have hz : HZ g x _ y46 := by rw [ey46]; exact hz
  refine g_aload_n C tb_X11_init_0_ok (i := 33) rfl rfl ?_
  obtain ⟨g47, h⟩ := gd_e h
  refine g_new C tb_X11_init_0_ok (i := 34) hz rfl cls_8 cnw_8 ck_X11_44 ins_8 ini_8 (Or.inr g47) rfl rfl (fun hz => ?_)
  refine g_nm (fun y48 ey48 M49 eM49 => ?_)
  have h := lt_e eM49 (lt_e ey48 h)
  rw [← ey48] at hz
  refine g_dup C tb_X11_init_0_ok (i := 35) rfl rfl ?_
  refine g_aload_n C tb_X11_init_0_ok (i := 36) rfl rfl ?_
  obtain ⟨k50, h⟩ := gK_e h
  obtain ⟨n51, h⟩ := gN_e h
  refine g_getR C tb_X11_init_0_ok (i := 37) rfl fl_X11_19 rfl k50 n51 ?_
  obtain ⟨y52, M53, ey52, h⟩ := ci_e h
  refine g_callI C tb_X11_init_0_ok (i := 38) [.ref (y48.2.1 a0 1)] hz rfl mw_X8_init mi_X8_init mli_X11_46 rfl rfl rfl rfl (w_X8_init C.G y48 (y46.2.2 + 1) (y48.2.1 a0 1) M49) ey52 rfl rfl rfl (fun hz => ?_)
  obtain ⟨k54, h⟩ := gK_e h
  obtain ⟨n55, h⟩ := gN_e h
  refine g_putF C tb_X11_init_0_ok R (i := 39) rfl ff_X11_47 ft_11_5 (Or.inl ⟨_, rfl⟩) rfl n55 k54 ?_
  refine g_nmy (fun y56 ey56 => ?_)
  have h := lt_e ey56 h
  have hz : HZ g x _ y56 := by rw [ey56]; exact hz
  refine g_aload_n C tb_X11_init_1_ok (i := 0) rfl rfl ?_
  obtain ⟨g57, h⟩ := gd_e h
  refine g_new C tb_X11_init_1_ok (i := 1) hz rfl cls_7 cnw_7 ck_X11_51 ins_7 ini_7 (Or.inr g57) rfl rfl (fun hz => ?_)
  refine g_nm (fun y58 ey58 M59 eM59 => ?_)
  have h := lt_e eM59 (lt_e ey58 h)
  rw [← ey58] at hz
  refine g_dup C tb_X11_init_1_ok (i := 2) rfl rfl ?_
  refine g_aload_n C tb_X11_init_1_ok (i := 3) rfl rfl ?_
  obtain ⟨k60, h⟩ := gK_e h
  obtain ⟨n61, h⟩ := gN_e h
  refine g_getR C tb_X11_init_1_ok (i := 4) rfl fl_X11_37 rfl k60 n61 ?_
  obtain ⟨k62, h⟩ := gK_e h
  obtain ⟨n63, h⟩ := gN_e h
  refine g_getR C tb_X11_init_1_ok (i := 5) rfl fl_X11_53 rfl k62 n63 ?_
  obtain ⟨y64, M65, ey64, h⟩ := ci_e h
  refine g_callI C tb_X11_init_1_ok (i := 6) [.ref (y58.2.1 (y58.2.1 a0 3) 0)] hz rfl mw_X7_init mi_X7_init mli_X11_56 rfl rfl rfl rfl (w_X7_init C.G y58 (y56.2.2 + 1) (y58.2.1 (y58.2.1 a0 3) 0) M59) ey64 rfl rfl rfl (fun hz => ?_)
  obtain ⟨k66, h⟩ := gK_e h
  obtain ⟨n67, h⟩ := gN_e h
  refine g_putF C tb_X11_init_1_ok R (i := 7) rfl ff_X11_59 ft_11_6 (Or.inl ⟨_, rfl⟩) rfl n67 k66 ?_
  refine g_nmy (fun y68 ey68 => ?_)
  have h := lt_e ey68 h
  have hz : HZ g x _ y68 := by rw [ey68]; exact hz
  refine g_aload_n C tb_X11_init_1_ok (i := 8) rfl rfl ?_
  obtain ⟨g69, h⟩ := gd_e h
  refine g_new C tb_X11_init_1_ok (i := 9) hz rfl cls_3 cnw_3 ck_X11_63 ins_3 ini_3 (Or.inr g69) rfl rfl (fun hz => ?_)
  refine g_nm (fun y70 ey70 M71 eM71 => ?_)
  have h := lt_e eM71 (lt_e ey70 h)
  rw [← ey70] at hz
  refine g_dup C tb_X11_init_1_ok (i := 10) rfl rfl ?_
  obtain ⟨y72, M73, ey72, h⟩ := ci_e h
  refine g_callI C tb_X11_init_1_ok (i := 11) [] hz rfl mw_X3_init mi_X3_init mli_X11_65 rfl rfl rfl rfl (w_X3_init C.G y70 (y68.2.2 + 1) M71) ey72 rfl rfl rfl (fun hz => ?_)
  obtain ⟨k74, h⟩ := gK_e h
  obtain ⟨n75, h⟩ := gN_e h
  refine g_putF C tb_X11_init_1_ok R (i := 12) rfl ff_X11_66 ft_11_7 (Or.inl ⟨_, rfl⟩) rfl n75 k74 ?_
  refine g_nmy (fun y76 ey76 => ?_)
  have h := lt_e ey76 h
  have hz : HZ g x _ y76 := by rw [ey76]; exact hz
  refine g_aload_n C tb_X11_init_1_ok (i := 13) rfl rfl ?_
  refine g_bipushv C tb_X11_init_1_ok (i := 14) 30 rfl k_bipushv_30 ?_
  obtain ⟨g77, h⟩ := gd_e h
  refine g_newaL C tb_X11_init_1_ok (i := 15) (N := 30) hz rfl acl_long (by decide) (by decide) rfl g77 rfl rfl (fun hz => ?_)
  refine g_nm (fun y78 ey78 M79 eM79 => ?_)
  have h := lt_e eM79 (lt_e ey78 h)
  rw [← ey78] at hz
  obtain ⟨k80, h⟩ := gK_e h
  obtain ⟨n81, h⟩ := gN_e h
  refine g_putF C tb_X11_init_1_ok R (i := 16) rfl ff_X11_70 ft_11_8 (Or.inr ⟨_, rfl⟩) rfl n81 k80 ?_
  refine g_nmy (fun y82 ey82 => ?_)
  have h := lt_e ey82 h
  have hz : HZ g x _ y82 := by rw [ey82]; exact hz
  refine g_aload_n C tb_X11_init_1_ok (i := 17) rfl rfl ?_
  refine g_bipushv C tb_X11_init_1_ok (i := 18) 30 rfl k_bipushv_30 ?_
  obtain ⟨g83, h⟩ := gd_e h
  refine g_newaL C tb_X11_init_1_ok (i := 19) (N := 30) hz rfl acl_long (by decide) (by decide) rfl g83 rfl rfl (fun hz => ?_)
  refine g_nm (fun y84 ey84 M85 eM85 => ?_)
  have h := lt_e eM85 (lt_e ey84 h)
  rw [← ey84] at hz
  obtain ⟨k86, h⟩ := gK_e h
  obtain ⟨n87, h⟩ := gN_e h
  refine g_putF C tb_X11_init_1_ok R (i := 20) rfl ff_X11_74 ft_11_9 (Or.inr ⟨_, rfl⟩) rfl n87 k86 ?_
  refine g_nmy (fun y88 ey88 => ?_)
  have h := lt_e ey88 h
  have hz : HZ g x _ y88 := by rw [ey88]; exact hz
  refine g_aload_n C tb_X11_init_1_ok (i := 21) rfl rfl ?_
  refine g_bipushv C tb_X11_init_1_ok (i := 22) 8 rfl k_bipushv_8 ?_
  obtain ⟨g89, h⟩ := gd_e h
  refine g_newaI C tb_X11_init_1_ok (i := 23) (N := 8) hz rfl acl_int (by decide) (by decide) rfl g89 rfl rfl (fun hz => ?_)
  refine g_nm (fun y90 ey90 M91 eM91 => ?_)
  have h := lt_e eM91 (lt_e ey90 h)
  rw [← ey90] at hz
  obtain ⟨k92, h⟩ := gK_e h
  obtain ⟨n93, h⟩ := gN_e h
  refine g_putF C tb_X11_init_1_ok R (i := 24) rfl ff_X11_77 ft_11_10 (Or.inr ⟨_, rfl⟩) rfl n93 k92 ?_
  refine g_nmy (fun y94 ey94 => ?_)
  have h := lt_e ey94 h
  have hz : HZ g x _ y94 := by rw [ey94]; exact hz
  refine g_aload_n C tb_X11_init_1_ok (i := 25) rfl rfl ?_
  refine g_iconstv C tb_X11_init_1_ok (i := 26) (-1) rfl k_iconstv_m1 ?_
  obtain ⟨k95, h⟩ := gK_e h
  refine g_putI C tb_X11_init_1_ok (i := 27) rfl fl_X11_81 ft_11_12 rfl k95 ?_
  refine g_mem (fun M96 eM96 => ?_)
  have h := lt_e eM96 h
  cases h
  exact g_vretI C R hz rfl (by have h8 : x.2.2.2.2.1.heap.size + 0 = bs g + y.2.2 := hz0; have h9 : x.2.2.2.2.1.heap.size + _ = bs g + _ := hz; omega) rfl tb_X11_init_1_ok (i := 28) rfl
def f_X8_isResting (y : Lay) (a0 : Nat) (a1 : Int32) (M : Mem) : Option Int32 := gK y a0 (0, 8) (jn (fun (v2 : Int32) => gd (v2 = 0 ∨ v2 = 1) (some v2)) fun j3 => br ((((M.1 a0 8) >>> (a1 &&& 31)) &&& (1 : Int32)) = 0) (j3 (0 : Int32)) (j3 (1 : Int32)))
theorem w_X8_isResting {g : GX} {l : Launch} (hG : GF g l) (y : Lay) (a0 : Nat) (a1 : Int32) (M : Mem) : C0 g l yX8_isResting cX8_isResting 2 (some .boolean) 0 y [.ref a0, .int a1] M (pm M (f_X8_isResting y a0 a1 M)) := by
  refine CP_of hG (by decide) [some (.ref a0), some (.int a1)] rfl rfl (fun out h x Q C R => ?_)
  unfold f_X8_isResting at h
  refine g_aload_n C tb_X8_isResting_0_ok (i := 0) rfl rfl ?_
  obtain ⟨k1, h⟩ := gK_e h
  refine g_getI C tb_X8_isResting_0_ok (i := 1) rfl fl_X8_43 rfl k1 ?_
  refine g_iload_n C tb_X8_isResting_0_ok (i := 2) rfl rfl ?_
  refine g_ishr C tb_X8_isResting_0_ok (i := 3) rfl ?_
  refine g_iconstv C tb_X8_isResting_0_ok (i := 4) 1 rfl k_iconstv_1 ?_
  refine g_iand C tb_X8_isResting_0_ok (i := 5) rfl ?_
  obtain ⟨j3, ej3, h⟩ := jn_e h
  have J16 : ∀ (v2 : Int32), j3 v2 = some out → GG g x 2 Q 0 0 y M 16 [none, none] [.int v2] := by
    intro v2 h; subst ej3
    obtain ⟨hz, h⟩ := gd_e h
    cases h
    exact g_zret0 C R hz tb_X8_isResting_0_ok (i := 10) rfl
  obtain ⟨t4, f5⟩ := br_e h
  refine g_if_eq C tb_X8_isResting_0_ok (i := 6) 15 rfl rfl (fun c => ?_) (fun c => ?_)
  · have h := t4 c
    refine g_iconstv C tb_X8_isResting_0_ok (i := 9) 0 rfl k_iconstv_0 ?_
    exact g_less (L' := [none, none]) trivial (J16 (0 : Int32) h)
  · have h := f5 c
    refine g_iconstv C tb_X8_isResting_0_ok (i := 7) 1 rfl k_iconstv_1 ?_
    refine g_goto C tb_X8_isResting_0_ok (i := 8) 16 rfl rfl ?_
    exact g_less (L' := [none, none]) trivial (J16 (1 : Int32) h)
def f_X5_isTold (y : Lay) (a0 : Nat) (M : Mem) : Option Int32 := gK y a0 (0, 5) (jn (fun (v2 : Int32) => gd (v2 = 0 ∨ v2 = 1) (some v2)) fun j3 => br ((M.1 a0 2) ≤ 0) (j3 (0 : Int32)) (j3 (1 : Int32)))
theorem w_X5_isTold {g : GX} {l : Launch} (hG : GF g l) (y : Lay) (a0 : Nat) (M : Mem) : C0 g l yX5_isTold cX5_isTold 1 (some .boolean) 0 y [.ref a0] M (pm M (f_X5_isTold y a0 M)) := by
  refine CP_of hG (by decide) [some (.ref a0)] rfl rfl (fun out h x Q C R => ?_)
  unfold f_X5_isTold at h
  refine g_aload_n C tb_X5_isTold_0_ok (i := 0) rfl rfl ?_
  obtain ⟨k1, h⟩ := gK_e h
  refine g_getI C tb_X5_isTold_0_ok (i := 1) rfl fl_X5_18 rfl k1 ?_
  obtain ⟨j3, ej3, h⟩ := jn_e h
  have J12 : ∀ (v2 : Int32), j3 v2 = some out → GG g x 1 Q 0 0 y M 12 [none] [.int v2] := by
    intro v2 h; subst ej3
    obtain ⟨hz, h⟩ := gd_e h
    cases h
    exact g_zret0 C R hz tb_X5_isTold_0_ok (i := 6) rfl
  obtain ⟨t4, f5⟩ := br_e h
  refine g_if_le C tb_X5_isTold_0_ok (i := 2) 11 rfl rfl (fun c => ?_) (fun c => ?_)
  · have h := t4 c
    refine g_iconstv C tb_X5_isTold_0_ok (i := 5) 0 rfl k_iconstv_0 ?_
    exact g_less (L' := [none]) trivial (J12 (0 : Int32) h)
  · have h := f5 c
    refine g_iconstv C tb_X5_isTold_0_ok (i := 3) 1 rfl k_iconstv_1 ?_
    refine g_goto C tb_X5_isTold_0_ok (i := 4) 12 rfl rfl ?_
    exact g_less (L' := [none]) trivial (J12 (1 : Int32) h)
def f_X8_skillOf (y : Lay) (a0 : Nat) (a1 : Int32) (M : Mem) : Option Int32 := jn (fun (v1 : Int32) => some v1) fun j2 => jn (fun (_u : Unit) => j2 (0 : Int32)) fun j3 => br (a1 < 0) (j3 ()) (br ((6 : Int32) ≤ a1) (j3 ()) (gK y a0 (0, 8) (gN (y.2.1 a0 5) (gA y (y.2.1 a0 5) 1 a1 (j2 (M.1 (y.2.1 a0 5) a1.toNatClampNeg))))))
theorem w_X8_skillOf {g : GX} {l : Launch} (hG : GF g l) (y : Lay) (a0 : Nat) (a1 : Int32) (M : Mem) : C0 g l yX8_skillOf cX8_skillOf 2 (some .int) 0 y [.ref a0, .int a1] M (pm M (f_X8_skillOf y a0 a1 M)) := by
  refine CP_of hG (by decide) [some (.ref a0), some (.int a1)] rfl rfl (fun out h x Q C R => ?_)
  unfold f_X8_skillOf at h
  refine g_iload_n C tb_X8_skillOf_0_ok (i := 0) rfl rfl ?_
  obtain ⟨j2, ej2, h⟩ := jn_e h
  have J20 : ∀ (v1 : Int32), j2 v1 = some out → GG g x 2 Q 0 0 y M 20 [none, none] [.int v1] := by
    intro v1 h; subst ej2
    cases h
    exact g_iret0 C R tb_X8_skillOf_0_ok (i := 11) rfl
  obtain ⟨j3, ej3, h⟩ := jn_e h
  have J19 : ∀ (_u : Unit), j3 _u = some out → GG g x 2 Q 0 0 y M 19 [none, none] [] := by
    intro _u h; subst ej3
    refine g_iconstv C tb_X8_skillOf_0_ok (i := 10) 0 rfl k_iconstv_0 ?_
    exact g_less (L' := [none, none]) trivial (J20 (0 : Int32) h)
  obtain ⟨t4, f5⟩ := br_e h
  refine g_if_lt C tb_X8_skillOf_0_ok (i := 1) 19 rfl rfl (fun c => ?_) (fun c => ?_)
  · have h := t4 c
    exact g_less (L' := [none, none]) trivial (J19 () h)
  · have h := f5 c
    refine g_iload_n C tb_X8_skillOf_0_ok (i := 2) rfl rfl ?_
    refine g_bipushv C tb_X8_skillOf_0_ok (i := 3) 6 rfl k_bipushv_6 ?_
    obtain ⟨t6, f7⟩ := br_e h
    refine g_icmp_ge C tb_X8_skillOf_0_ok (i := 4) 19 rfl rfl (fun c => ?_) (fun c => ?_)
    · have h := t6 c
      exact g_less (L' := [none, none]) trivial (J19 () h)
    · have h := f7 c
      refine g_aload_n C tb_X8_skillOf_0_ok (i := 5) rfl rfl ?_
      obtain ⟨k8, h⟩ := gK_e h
      obtain ⟨n9, h⟩ := gN_e h
      refine g_getR C tb_X8_skillOf_0_ok (i := 6) rfl fl_X8_24 rfl k8 n9 ?_
      refine g_iload_n C tb_X8_skillOf_0_ok (i := 7) rfl rfl ?_
      obtain ⟨b10, h⟩ := gA_e h
      refine g_iald C tb_X8_skillOf_0_ok (i := 8) rfl b10 ?_
      refine g_goto C tb_X8_skillOf_0_ok (i := 9) 20 rfl rfl ?_
      exact g_less (L' := [none, none]) trivial (J20 (M.1 (y.2.1 a0 5) a1.toNatClampNeg) h)
def f_X8_spotOf (y : Lay) (a0 : Nat) (a1 : Int32) (M : Mem) : Option Int32 := jn (fun (v1 : Int32) => some v1) fun j2 => jn (fun (_u : Unit) => j2 (0 : Int32)) fun j3 => br (a1 < 0) (j3 ()) (br ((6 : Int32) ≤ a1) (j3 ()) (gK y a0 (0, 8) (gN (y.2.1 a0 4) (gA y (y.2.1 a0 4) 1 a1 (j2 (M.1 (y.2.1 a0 4) a1.toNatClampNeg))))))
theorem w_X8_spotOf {g : GX} {l : Launch} (hG : GF g l) (y : Lay) (a0 : Nat) (a1 : Int32) (M : Mem) : C0 g l yX8_spotOf cX8_spotOf 2 (some .int) 0 y [.ref a0, .int a1] M (pm M (f_X8_spotOf y a0 a1 M)) := by
  refine CP_of hG (by decide) [some (.ref a0), some (.int a1)] rfl rfl (fun out h x Q C R => ?_)
  unfold f_X8_spotOf at h
  refine g_iload_n C tb_X8_spotOf_0_ok (i := 0) rfl rfl ?_
  obtain ⟨j2, ej2, h⟩ := jn_e h
  have J20 : ∀ (v1 : Int32), j2 v1 = some out → GG g x 2 Q 0 0 y M 20 [none, none] [.int v1] := by
    intro v1 h; subst ej2
    cases h
    exact g_iret0 C R tb_X8_spotOf_0_ok (i := 11) rfl
  obtain ⟨j3, ej3, h⟩ := jn_e h
  have J19 : ∀ (_u : Unit), j3 _u = some out → GG g x 2 Q 0 0 y M 19 [none, none] [] := by
    intro _u h; subst ej3
    refine g_iconstv C tb_X8_spotOf_0_ok (i := 10) 0 rfl k_iconstv_0 ?_
    exact g_less (L' := [none, none]) trivial (J20 (0 : Int32) h)
  obtain ⟨t4, f5⟩ := br_e h
  refine g_if_lt C tb_X8_spotOf_0_ok (i := 1) 19 rfl rfl (fun c => ?_) (fun c => ?_)
  · have h := t4 c
    exact g_less (L' := [none, none]) trivial (J19 () h)
  · have h := f5 c
    refine g_iload_n C tb_X8_spotOf_0_ok (i := 2) rfl rfl ?_
    refine g_bipushv C tb_X8_spotOf_0_ok (i := 3) 6 rfl k_bipushv_6 ?_
    obtain ⟨t6, f7⟩ := br_e h
    refine g_icmp_ge C tb_X8_spotOf_0_ok (i := 4) 19 rfl rfl (fun c => ?_) (fun c => ?_)
    · have h := t6 c
      exact g_less (L' := [none, none]) trivial (J19 () h)
    · have h := f7 c
      refine g_aload_n C tb_X8_spotOf_0_ok (i := 5) rfl rfl ?_
      obtain ⟨k8, h⟩ := gK_e h
      obtain ⟨n9, h⟩ := gN_e h
      refine g_getR C tb_X8_spotOf_0_ok (i := 6) rfl fl_X8_21 rfl k8 n9 ?_
      refine g_iload_n C tb_X8_spotOf_0_ok (i := 7) rfl rfl ?_
      obtain ⟨b10, h⟩ := gA_e h
      refine g_iald C tb_X8_spotOf_0_ok (i := 8) rfl b10 ?_
      refine g_goto C tb_X8_spotOf_0_ok (i := 9) 20 rfl rfl ?_
      exact g_less (L' := [none, none]) trivial (J20 (M.1 (y.2.1 a0 4) a1.toNatClampNeg) h)
def f_X1_besideBits (y : Lay) (a0 : Nat) (a1 : Int32) (M : Mem) : Option Int32 := jn (fun (v1 : Int32) => some v1) fun j2 => jn (fun (_u : Unit) => j2 (0 : Int32)) fun j3 => br (a1 < 0) (j3 ()) (br ((30 : Int32) ≤ a1) (j3 ()) (gK y a0 (0, 1) (gN (y.2.1 a0 6) (gA y (y.2.1 a0 6) 1 a1 (j2 (M.1 (y.2.1 a0 6) a1.toNatClampNeg))))))
theorem w_X1_besideBits {g : GX} {l : Launch} (hG : GF g l) (y : Lay) (a0 : Nat) (a1 : Int32) (M : Mem) : C0 g l yX1_besideBits cX1_besideBits 2 (some .int) 0 y [.ref a0, .int a1] M (pm M (f_X1_besideBits y a0 a1 M)) := by
  refine CP_of hG (by decide) [some (.ref a0), some (.int a1)] rfl rfl (fun out h x Q C R => ?_)
  unfold f_X1_besideBits at h
  refine g_iload_n C tb_X1_besideBits_0_ok (i := 0) rfl rfl ?_
  obtain ⟨j2, ej2, h⟩ := jn_e h
  have J20 : ∀ (v1 : Int32), j2 v1 = some out → GG g x 2 Q 0 0 y M 20 [none, none] [.int v1] := by
    intro v1 h; subst ej2
    cases h
    exact g_iret0 C R tb_X1_besideBits_0_ok (i := 11) rfl
  obtain ⟨j3, ej3, h⟩ := jn_e h
  have J19 : ∀ (_u : Unit), j3 _u = some out → GG g x 2 Q 0 0 y M 19 [none, none] [] := by
    intro _u h; subst ej3
    refine g_iconstv C tb_X1_besideBits_0_ok (i := 10) 0 rfl k_iconstv_0 ?_
    exact g_less (L' := [none, none]) trivial (J20 (0 : Int32) h)
  obtain ⟨t4, f5⟩ := br_e h
  refine g_if_lt C tb_X1_besideBits_0_ok (i := 1) 19 rfl rfl (fun c => ?_) (fun c => ?_)
  · have h := t4 c
    exact g_less (L' := [none, none]) trivial (J19 () h)
  · have h := f5 c
    refine g_iload_n C tb_X1_besideBits_0_ok (i := 2) rfl rfl ?_
    refine g_bipushv C tb_X1_besideBits_0_ok (i := 3) 30 rfl k_bipushv_30 ?_
    obtain ⟨t6, f7⟩ := br_e h
    refine g_icmp_ge C tb_X1_besideBits_0_ok (i := 4) 19 rfl rfl (fun c => ?_) (fun c => ?_)
    · have h := t6 c
      exact g_less (L' := [none, none]) trivial (J19 () h)
    · have h := f7 c
      refine g_aload_n C tb_X1_besideBits_0_ok (i := 5) rfl rfl ?_
      obtain ⟨k8, h⟩ := gK_e h
      obtain ⟨n9, h⟩ := gN_e h
      refine g_getR C tb_X1_besideBits_0_ok (i := 6) rfl fl_X1_9 rfl k8 n9 ?_
      refine g_iload_n C tb_X1_besideBits_0_ok (i := 7) rfl rfl ?_
      obtain ⟨b10, h⟩ := gA_e h
      refine g_iald C tb_X1_besideBits_0_ok (i := 8) rfl b10 ?_
      refine g_goto C tb_X1_besideBits_0_ok (i := 9) 20 rfl rfl ?_
      exact g_less (L' := [none, none]) trivial (J20 (M.1 (y.2.1 a0 6) a1.toNatClampNeg) h)
def f_X8_blueOf (y : Lay) (a0 : Nat) (a1 : Int32) (M : Mem) : Option Int32 := jn (fun (v1 : Int32) => some v1) fun j2 => jn (fun (_u : Unit) => j2 (0 : Int32)) fun j3 => br (a1 < 0) (j3 ()) (br ((30 : Int32) ≤ a1) (j3 ()) (gK y a0 (0, 8) (gN (y.2.1 a0 1) (gA y (y.2.1 a0 1) 1 a1 (j2 (M.1 (y.2.1 a0 1) a1.toNatClampNeg))))))
theorem w_X8_blueOf {g : GX} {l : Launch} (hG : GF g l) (y : Lay) (a0 : Nat) (a1 : Int32) (M : Mem) : C0 g l yX8_blueOf cX8_blueOf 2 (some .int) 0 y [.ref a0, .int a1] M (pm M (f_X8_blueOf y a0 a1 M)) := by
  refine CP_of hG (by decide) [some (.ref a0), some (.int a1)] rfl rfl (fun out h x Q C R => ?_)
  unfold f_X8_blueOf at h
  refine g_iload_n C tb_X8_blueOf_0_ok (i := 0) rfl rfl ?_
  obtain ⟨j2, ej2, h⟩ := jn_e h
  have J20 : ∀ (v1 : Int32), j2 v1 = some out → GG g x 2 Q 0 0 y M 20 [none, none] [.int v1] := by
    intro v1 h; subst ej2
    cases h
    exact g_iret0 C R tb_X8_blueOf_0_ok (i := 11) rfl
  obtain ⟨j3, ej3, h⟩ := jn_e h
  have J19 : ∀ (_u : Unit), j3 _u = some out → GG g x 2 Q 0 0 y M 19 [none, none] [] := by
    intro _u h; subst ej3
    refine g_iconstv C tb_X8_blueOf_0_ok (i := 10) 0 rfl k_iconstv_0 ?_
    exact g_less (L' := [none, none]) trivial (J20 (0 : Int32) h)
  obtain ⟨t4, f5⟩ := br_e h
  refine g_if_lt C tb_X8_blueOf_0_ok (i := 1) 19 rfl rfl (fun c => ?_) (fun c => ?_)
  · have h := t4 c
    exact g_less (L' := [none, none]) trivial (J19 () h)
  · have h := f5 c
    refine g_iload_n C tb_X8_blueOf_0_ok (i := 2) rfl rfl ?_
    refine g_bipushv C tb_X8_blueOf_0_ok (i := 3) 30 rfl k_bipushv_30 ?_
    obtain ⟨t6, f7⟩ := br_e h
    refine g_icmp_ge C tb_X8_blueOf_0_ok (i := 4) 19 rfl rfl (fun c => ?_) (fun c => ?_)
    · have h := t6 c
      exact g_less (L' := [none, none]) trivial (J19 () h)
    · have h := f7 c
      refine g_aload_n C tb_X8_blueOf_0_ok (i := 5) rfl rfl ?_
      obtain ⟨k8, h⟩ := gK_e h
      obtain ⟨n9, h⟩ := gN_e h
      refine g_getR C tb_X8_blueOf_0_ok (i := 6) rfl fl_X8_9 rfl k8 n9 ?_
      refine g_iload_n C tb_X8_blueOf_0_ok (i := 7) rfl rfl ?_
      obtain ⟨b10, h⟩ := gA_e h
      refine g_iald C tb_X8_blueOf_0_ok (i := 8) rfl b10 ?_
      refine g_goto C tb_X8_blueOf_0_ok (i := 9) 20 rfl rfl ?_
      exact g_less (L' := [none, none]) trivial (J20 (M.1 (y.2.1 a0 1) a1.toNatClampNeg) h)
def f_X1_rowOf (y : Lay) (a0 : Nat) (a1 : Int32) (M : Mem) : Option Int32 := gK y a0 (0, 1) (jn (fun (v2 : Int32) => some v2) fun j3 => br ((M.1 a0 0) ≤ 0) (j3 (0 : Int32)) (gd (¬ (M.1 a0 0) = 0) (j3 (a1 / (M.1 a0 0)))))
theorem w_X1_rowOf {g : GX} {l : Launch} (hG : GF g l) (y : Lay) (a0 : Nat) (a1 : Int32) (M : Mem) : C0 g l yX1_rowOf cX1_rowOf 2 (some .int) 0 y [.ref a0, .int a1] M (pm M (f_X1_rowOf y a0 a1 M)) := by
  refine CP_of hG (by decide) [some (.ref a0), some (.int a1)] rfl rfl (fun out h x Q C R => ?_)
  unfold f_X1_rowOf at h
  refine g_aload_n C tb_X1_rowOf_0_ok (i := 0) rfl rfl ?_
  obtain ⟨k1, h⟩ := gK_e h
  refine g_getI C tb_X1_rowOf_0_ok (i := 1) rfl fl_X1_48 rfl k1 ?_
  obtain ⟨j3, ej3, h⟩ := jn_e h
  have J17 : ∀ (v2 : Int32), j3 v2 = some out → GG g x 2 Q 0 0 y M 17 [none, none] [.int v2] := by
    intro v2 h; subst ej3
    cases h
    exact g_iret0 C R tb_X1_rowOf_0_ok (i := 9) rfl
  obtain ⟨t4, f5⟩ := br_e h
  refine g_if_le C tb_X1_rowOf_0_ok (i := 2) 16 rfl rfl (fun c => ?_) (fun c => ?_)
  · have h := t4 c
    refine g_iconstv C tb_X1_rowOf_0_ok (i := 8) 0 rfl k_iconstv_0 ?_
    exact g_less (L' := [none, none]) trivial (J17 (0 : Int32) h)
  · have h := f5 c
    refine g_iload_n C tb_X1_rowOf_0_ok (i := 3) rfl rfl ?_
    refine g_aload_n C tb_X1_rowOf_0_ok (i := 4) rfl rfl ?_
    refine g_getI C tb_X1_rowOf_0_ok (i := 5) rfl fl_X1_48 rfl k1 ?_
    obtain ⟨n6, h⟩ := gd_e h
    refine g_idiv C tb_X1_rowOf_0_ok (i := 6) rfl n6 ?_
    refine g_goto C tb_X1_rowOf_0_ok (i := 7) 17 rfl rfl ?_
    exact g_less (L' := [none, none]) trivial (J17 (a1 / (M.1 a0 0)) h)
def f_X8_setValues (y : Lay) (a0 : Nat) (a1 : Int32) (M : Mem) : Option (Int32 × Mem) := gK y a0 (0, 8) (gN (y.2.1 a0 0) (gK y (y.2.1 a0 0) (0, 1) (cp (f_X1_besideBits y (y.2.1 a0 0) a1 M) fun (r4 : Int32) => fixN (fun _ _ => none) (fun (s7 : Int32 → Int32 → Option (Int32 × Mem)) (v5 : Int32) (v6 : Int32) => br ((30 : Int32) ≤ v6) (gN (y.2.1 a0 6) (cp (f_X8_blueOf y a0 a1 M) fun (r12 : Int32) => gA y (y.2.1 a0 6) 1 (0 : Int32) (lt (wI M (y.2.1 a0 6) (0 : Int32).toNatClampNeg r12) fun (M14 : Mem) => gA y (y.2.1 a0 6) 1 (1 : Int32) (lt (wI M14 (y.2.1 a0 6) (1 : Int32).toNatClampNeg v5) fun (M16 : Mem) => cp (f_X1_rowOf y (y.2.1 a0 0) a1 M16) fun (r17 : Int32) => gA y (y.2.1 a0 6) 1 (2 : Int32) (lt (wI M16 (y.2.1 a0 6) (2 : Int32).toNatClampNeg r17) fun (M19 : Mem) => gA y (y.2.1 a0 6) 1 (3 : Int32) (lt (wI M19 (y.2.1 a0 6) (3 : Int32).toNatClampNeg (M19.1 a0 11)) fun (M21 : Mem) => some (0, M21))))))) (jn (fun (v22 : Int32) => lt (v6 + (1 : Int32)) fun (v24 : Int32) => s7 v22 v24) fun j23 => br (((r4 >>> (v6 &&& 31)) &&& (1 : Int32)) = 0) (j23 v5) (gN (y.2.1 a0 1) (gA y (y.2.1 a0 1) 1 v6 (lt (v5 + (M.1 (y.2.1 a0 1) v6.toNatClampNeg)) fun (v29 : Int32) => j23 v29))))) FUEL (0 : Int32) (0 : Int32))))
theorem w_X8_setValues {g : GX} {l : Launch} (hG : GF g l) (y : Lay) (a0 : Nat) (a1 : Int32) (M : Mem) : C0 g l yX8_setValues cX8_setValues 5 none 1 y [.ref a0, .int a1] M (f_X8_setValues y a0 a1 M) := by
  refine C0_of hG (by decide) [some (.ref a0), some (.int a1), none, none, none] rfl rfl (fun out h x Q C R => ?_)
  unfold f_X8_setValues at h
  refine g_aload_n C tb_X8_setValues_0_ok (i := 0) rfl rfl ?_
  obtain ⟨k1, h⟩ := gK_e h
  obtain ⟨n2, h⟩ := gN_e h
  refine g_getR C tb_X8_setValues_0_ok (i := 1) rfl fl_X8_32 rfl k1 n2 ?_
  refine g_iload_n C tb_X8_setValues_0_ok (i := 2) rfl rfl ?_
  obtain ⟨k3, h⟩ := gK_e h
  obtain ⟨r4, er4, h⟩ := cp_e h
  refine g_callV0 C tb_X8_setValues_0_ok (i := 3) [.int a1] rfl mw_X1_besideBits mv_X1_besideBits ml_X8_144 k3 rfl rfl rfl rfl (w_X1_besideBits C.G y (y.2.1 a0 0) a1 M) (pm_s er4) rfl rfl rfl ?_
  refine g_istore_n C tb_X8_setValues_0_ok (i := 4) rfl rfl rfl ?_
  refine g_iconstv C tb_X8_setValues_0_ok (i := 5) 0 rfl k_iconstv_0 ?_
  refine g_istore_n C tb_X8_setValues_0_ok (i := 6) rfl rfl rfl ?_
  refine g_iconstv C tb_X8_setValues_0_ok (i := 7) 0 rfl k_iconstv_0 ?_
  refine g_istore C tb_X8_setValues_0_ok (i := 8) rfl rfl rfl ?_
  refine g_less (L' := [some (.ref a0), some (.int a1), some (.int r4), some (.int (0 : Int32)), some (.int (0 : Int32))]) ⟨rfl, ⟨rfl, ⟨rfl, ⟨rfl, ⟨rfl, trivial⟩⟩⟩⟩⟩ ?_
  refine fix_i (P := fun (f : Int32 → Int32 → Option (Int32 × Mem)) => ∀ (v5 : Int32) (v6 : Int32), f v5 v6 = some out → GG g x 5 Q 0 0 y M 14 [some (.ref a0), some (.int a1), some (.int r4), some (.int v5), some (.int v6)] []) ?_ ?_ _ (0 : Int32) (0 : Int32) h
  · intro v5 v6 h; exact (nn_e h).elim
  · intro s7 ih8 v5 v6 h
    refine g_iload C tb_X8_setValues_0_ok (i := 9) rfl rfl ?_
    refine g_bipushv C tb_X8_setValues_0_ok (i := 10) 30 rfl k_bipushv_30 ?_
    obtain ⟨t9, f10⟩ := br_e h
    refine g_icmp_ge C tb_X8_setValues_0_ok (i := 11) 46 rfl rfl (fun c => ?_) (fun c => ?_)
    · have h := t9 c
      refine g_aload_n C tb_X8_setValues_0_ok (i := 27) rfl rfl ?_
      obtain ⟨n11, h⟩ := gN_e h
      refine g_getR C tb_X8_setValues_0_ok (i := 28) rfl fl_X8_29 rfl k1 n11 ?_
      refine g_iconstv C tb_X8_setValues_0_ok (i := 29) 0 rfl k_iconstv_0 ?_
      refine g_aload_n C tb_X8_setValues_0_ok (i := 30) rfl rfl ?_
      refine g_iload_n C tb_X8_setValues_0_ok (i := 31) rfl rfl ?_
      obtain ⟨r12, er12, h⟩ := cp_e h
      refine g_callV0 C tb_X8_setValues_0_ok (i := 32) [.int a1] rfl mw_X8_blueOf mv_X8_blueOf ml_X8_118 k1 rfl rfl rfl rfl (w_X8_blueOf C.G y a0 a1 M) (pm_s er12) rfl rfl rfl ?_
      obtain ⟨b13, h⟩ := gA_e h
      refine g_iast C tb_X8_setValues_0_ok (i := 33) rfl b13 ?_
      refine g_mem (fun M14 eM14 => ?_)
      have h := lt_e eM14 h
      refine g_aload_n C tb_X8_setValues_0_ok (i := 34) rfl rfl ?_
      refine g_getR C tb_X8_setValues_0_ok (i := 35) rfl fl_X8_29 rfl k1 n11 ?_
      refine g_iconstv C tb_X8_setValues_0_ok (i := 36) 1 rfl k_iconstv_1 ?_
      refine g_iload_n C tb_X8_setValues_0_ok (i := 37) rfl rfl ?_
      obtain ⟨b15, h⟩ := gA_e h
      refine g_iast C tb_X8_setValues_0_ok (i := 38) rfl b15 ?_
      refine g_mem (fun M16 eM16 => ?_)
      have h := lt_e eM16 h
      refine g_aload_n C tb_X8_setValues_0_ok (i := 39) rfl rfl ?_
      refine g_getR C tb_X8_setValues_1_ok (i := 0) rfl fl_X8_29 rfl k1 n11 ?_
      refine g_iconstv C tb_X8_setValues_1_ok (i := 1) 2 rfl k_iconstv_2 ?_
      refine g_aload_n C tb_X8_setValues_1_ok (i := 2) rfl rfl ?_
      refine g_getR C tb_X8_setValues_1_ok (i := 3) rfl fl_X8_32 rfl k1 n2 ?_
      refine g_iload_n C tb_X8_setValues_1_ok (i := 4) rfl rfl ?_
      obtain ⟨r17, er17, h⟩ := cp_e h
      refine g_callV0 C tb_X8_setValues_1_ok (i := 5) [.int a1] rfl mw_X1_rowOf mv_X1_rowOf ml_X8_160 k3 rfl rfl rfl rfl (w_X1_rowOf C.G y (y.2.1 a0 0) a1 M16) (pm_s er17) rfl rfl rfl ?_
      obtain ⟨b18, h⟩ := gA_e h
      refine g_iast C tb_X8_setValues_1_ok (i := 6) rfl b18 ?_
      refine g_mem (fun M19 eM19 => ?_)
      have h := lt_e eM19 h
      refine g_aload_n C tb_X8_setValues_1_ok (i := 7) rfl rfl ?_
      refine g_getR C tb_X8_setValues_1_ok (i := 8) rfl fl_X8_29 rfl k1 n11 ?_
      refine g_iconstv C tb_X8_setValues_1_ok (i := 9) 3 rfl k_iconstv_3 ?_
      refine g_aload_n C tb_X8_setValues_1_ok (i := 10) rfl rfl ?_
      refine g_getI C tb_X8_setValues_1_ok (i := 11) rfl fl_X8_52 rfl k1 ?_
      obtain ⟨b20, h⟩ := gA_e h
      refine g_iast C tb_X8_setValues_1_ok (i := 12) rfl b20 ?_
      refine g_mem (fun M21 eM21 => ?_)
      have h := lt_e eM21 h
      cases h
      exact g_vret0 C R tb_X8_setValues_1_ok (i := 13) rfl
    · have h := f10 c
      refine g_iload_n C tb_X8_setValues_0_ok (i := 12) rfl rfl ?_
      refine g_iload C tb_X8_setValues_0_ok (i := 13) rfl rfl ?_
      refine g_ishr C tb_X8_setValues_0_ok (i := 14) rfl ?_
      refine g_iconstv C tb_X8_setValues_0_ok (i := 15) 1 rfl k_iconstv_1 ?_
      refine g_iand C tb_X8_setValues_0_ok (i := 16) rfl ?_
      obtain ⟨j23, ej23, h⟩ := jn_e h
      have J40 : ∀ (v22 : Int32), j23 v22 = some out → GG g x 5 Q 0 0 y M 40 [some (.ref a0), some (.int a1), some (.int r4), some (.int v22), some (.int v6)] [] := by
        intro v22 h; subst ej23
        obtain ⟨v24, ev24⟩ : ∃ w : Int32, w = v6 + (1 : Int32) := ⟨_, rfl⟩
        have h := lt_e ev24 h
        refine g_iincv C tb_X8_setValues_0_ok (i := 25) (1 : Int32) ev24 rfl rfl k_iconstv_1 rfl rfl ?_
        refine g_goto C tb_X8_setValues_0_ok (i := 26) 14 rfl rfl ?_
        exact g_less (L' := [some (.ref a0), some (.int a1), some (.int r4), some (.int v22), some (.int v24)]) ⟨rfl, ⟨rfl, ⟨rfl, ⟨rfl, ⟨rfl, trivial⟩⟩⟩⟩⟩ (ih8 v22 v24 h)
      obtain ⟨t25, f26⟩ := br_e h
      refine g_if_eq C tb_X8_setValues_0_ok (i := 17) 40 rfl rfl (fun c => ?_) (fun c => ?_)
      · have h := t25 c
        exact g_less (L' := [some (.ref a0), some (.int a1), some (.int r4), some (.int v5), some (.int v6)]) ⟨rfl, ⟨rfl, ⟨rfl, ⟨rfl, ⟨rfl, trivial⟩⟩⟩⟩⟩ (J40 v5 h)
      · have h := f26 c
        refine g_iload_n C tb_X8_setValues_0_ok (i := 18) rfl rfl ?_
        refine g_aload_n C tb_X8_setValues_0_ok (i := 19) rfl rfl ?_
        obtain ⟨n27, h⟩ := gN_e h
        refine g_getR C tb_X8_setValues_0_ok (i := 20) rfl fl_X8_9 rfl k1 n27 ?_
        refine g_iload C tb_X8_setValues_0_ok (i := 21) rfl rfl ?_
        obtain ⟨b28, h⟩ := gA_e h
        refine g_iald C tb_X8_setValues_0_ok (i := 22) rfl b28 ?_
        refine g_iadd C tb_X8_setValues_0_ok (i := 23) rfl ?_
        refine g_topi (fun v29 ev29 => ?_)
        have h := lt_e ev29 h
        refine g_istore_n C tb_X8_setValues_0_ok (i := 24) rfl rfl rfl ?_
        exact g_less (L' := [some (.ref a0), some (.int a1), some (.int r4), some (.int v29), some (.int v6)]) ⟨rfl, ⟨rfl, ⟨rfl, ⟨rfl, ⟨rfl, trivial⟩⟩⟩⟩⟩ (J40 v29 h)
def f_X5_joined (y : Lay) (a0 : Int32) (a1 : Int32) (a2 : Int32) (M : Mem) : Option Int32 := br (a0 < ((-18) : Int32) ∨ ((-11) : Int32) < a0) (jn (fun (v3 : Int32) => some v3) fun j4 => br (a2 = 0) (j4 (0 : Int32)) (gd (¬ a2 = 0) (j4 (a1 / a2)))) (br (a0 = ((-18) : Int32)) (some (a1 * a2)) (br (a0 = ((-17) : Int32)) (some (a1 - a2)) (br (a0 = ((-16) : Int32)) (some (a1 + a2)) (br (a0 = ((-15) : Int32)) (jn (fun (v14 : Int32) => some v14) fun j15 => br (a1 = a2) (j15 (1 : Int32)) (j15 (0 : Int32))) (br (a0 = ((-14) : Int32)) (jn (fun (v20 : Int32) => some v20) fun j21 => br (a2 ≤ a1) (j21 (0 : Int32)) (j21 (1 : Int32))) (br (a0 = ((-13) : Int32)) (jn (fun (v26 : Int32) => some v26) fun j27 => br (a2 = 0) (j27 (0 : Int32)) (gd (¬ a2 = 0) (j27 (a1 / a2)))) (br (a0 = ((-12) : Int32)) (jn (fun (v33 : Int32) => some v33) fun j34 => jn (fun (_u : Unit) => j34 (0 : Int32)) fun j35 => br (a1 = 0) (j35 ()) (br (a2 = 0) (j35 ()) (j34 (1 : Int32)))) (jn (fun (v42 : Int32) => some v42) fun j43 => jn (fun (_u : Unit) => j43 (1 : Int32)) fun j44 => br (a1 = 0) (br (a2 = 0) (j43 (0 : Int32)) (j44 ())) (j44 ())))))))))
theorem w_X5_joined {g : GX} {l : Launch} (hG : GF g l) (y : Lay) (a0 : Int32) (a1 : Int32) (a2 : Int32) (M : Mem) : C0 g l yX5_joined cX5_joined 3 (some .int) 0 y [.int a0, .int a1, .int a2] M (pm M (f_X5_joined y a0 a1 a2 M)) := by
  refine CP_of hG (by decide) [some (.int a0), some (.int a1), some (.int a2)] rfl rfl (fun out h x Q C R => ?_)
  unfold f_X5_joined at h
  refine g_iload_n C tb_X5_joined_0_ok (i := 0) rfl rfl ?_
  obtain ⟨t1, f2⟩ := br_e h
  by_cases hsw : a0 < ((-18) : Int32) ∨ ((-11) : Int32) < a0
  · have h := t1 hsw
    refine g_tableOut C tb_X5_joined_0_ok (i := 1) (-18) (-11) 110 rfl hsw (by decide) rfl ?_
    refine g_iload_n C tb_X5_joined_1_ok (i := 4) rfl rfl ?_
    obtain ⟨j4, ej4, h⟩ := jn_e h
    have J121 : ∀ (v3 : Int32), j4 v3 = some out → GG g x 3 Q 0 0 y M 121 [none, none, none] [.int v3] := by
      intro v3 h; subst ej4
      cases h
      exact g_iret0 C R tb_X5_joined_1_ok (i := 11) rfl
    obtain ⟨t5, f6⟩ := br_e h
    refine g_if_ne C tb_X5_joined_1_ok (i := 5) 118 rfl rfl (fun c => ?_) (fun c => ?_)
    · have h := f6 c
      refine g_iload_n C tb_X5_joined_1_ok (i := 8) rfl rfl ?_
      refine g_iload_n C tb_X5_joined_1_ok (i := 9) rfl rfl ?_
      obtain ⟨n7, h⟩ := gd_e h
      refine g_idiv C tb_X5_joined_1_ok (i := 10) rfl n7 ?_
      exact g_less (L' := [none, none, none]) trivial (J121 (a1 / a2) h)
    · have h := t5 c
      refine g_iconstv C tb_X5_joined_1_ok (i := 6) 0 rfl k_iconstv_0 ?_
      refine g_goto C tb_X5_joined_1_ok (i := 7) 121 rfl rfl ?_
      exact g_less (L' := [none, none, none]) trivial (J121 (0 : Int32) h)
  have h := f2 hsw
  obtain ⟨t8, f9⟩ := br_e h
  by_cases hs982 : a0 = ((-18) : Int32)
  · have h := t8 hs982
    refine g_tableIn C tb_X5_joined_0_ok (i := 1) (-18) 106 105 rfl hs982 (by decide) rfl ?_
    refine g_iload_n C tb_X5_joined_1_ok (i := 0) rfl rfl ?_
    refine g_iload_n C tb_X5_joined_1_ok (i := 1) rfl rfl ?_
    refine g_imul C tb_X5_joined_1_ok (i := 2) rfl ?_
    cases h
    exact g_iret0 C R tb_X5_joined_1_ok (i := 3) rfl
  have h := f9 hs982
  obtain ⟨t10, f11⟩ := br_e h
  by_cases hs983 : a0 = ((-17) : Int32)
  · have h := t10 hs983
    refine g_tableIn C tb_X5_joined_0_ok (i := 1) (-17) 102 101 rfl hs983 (by decide) rfl ?_
    refine g_iload_n C tb_X5_joined_0_ok (i := 36) rfl rfl ?_
    refine g_iload_n C tb_X5_joined_0_ok (i := 37) rfl rfl ?_
    refine g_isub C tb_X5_joined_0_ok (i := 38) rfl ?_
    cases h
    exact g_iret0 C R tb_X5_joined_0_ok (i := 39) rfl
  have h := f11 hs983
  obtain ⟨t12, f13⟩ := br_e h
  by_cases hs984 : a0 = ((-16) : Int32)
  · have h := t12 hs984
    refine g_tableIn C tb_X5_joined_0_ok (i := 1) (-16) 98 97 rfl hs984 (by decide) rfl ?_
    refine g_iload_n C tb_X5_joined_0_ok (i := 32) rfl rfl ?_
    refine g_iload_n C tb_X5_joined_0_ok (i := 33) rfl rfl ?_
    refine g_iadd C tb_X5_joined_0_ok (i := 34) rfl ?_
    cases h
    exact g_iret0 C R tb_X5_joined_0_ok (i := 35) rfl
  have h := f13 hs984
  obtain ⟨t18, f19⟩ := br_e h
  by_cases hs985 : a0 = ((-15) : Int32)
  · have h := t18 hs985
    refine g_tableIn C tb_X5_joined_0_ok (i := 1) (-15) 87 86 rfl hs985 (by decide) rfl ?_
    refine g_iload_n C tb_X5_joined_0_ok (i := 25) rfl rfl ?_
    refine g_iload_n C tb_X5_joined_0_ok (i := 26) rfl rfl ?_
    obtain ⟨j15, ej15, h⟩ := jn_e h
    have J97 : ∀ (v14 : Int32), j15 v14 = some out → GG g x 3 Q 0 0 y M 97 [none, none, none] [.int v14] := by
      intro v14 h; subst ej15
      cases h
      exact g_iret0 C R tb_X5_joined_0_ok (i := 31) rfl
    obtain ⟨t16, f17⟩ := br_e h
    refine g_icmp_ne C tb_X5_joined_0_ok (i := 27) 96 rfl rfl (fun c => ?_) (fun c => ?_)
    · have h := f17 c
      refine g_iconstv C tb_X5_joined_0_ok (i := 30) 0 rfl k_iconstv_0 ?_
      exact g_less (L' := [none, none, none]) trivial (J97 (0 : Int32) h)
    · have h := t16 c
      refine g_iconstv C tb_X5_joined_0_ok (i := 28) 1 rfl k_iconstv_1 ?_
      refine g_goto C tb_X5_joined_0_ok (i := 29) 97 rfl rfl ?_
      exact g_less (L' := [none, none, none]) trivial (J97 (1 : Int32) h)
  have h := f19 hs985
  obtain ⟨t24, f25⟩ := br_e h
  by_cases hs986 : a0 = ((-14) : Int32)
  · have h := t24 hs986
    refine g_tableIn C tb_X5_joined_0_ok (i := 1) (-14) 76 75 rfl hs986 (by decide) rfl ?_
    refine g_iload_n C tb_X5_joined_0_ok (i := 18) rfl rfl ?_
    refine g_iload_n C tb_X5_joined_0_ok (i := 19) rfl rfl ?_
    obtain ⟨j21, ej21, h⟩ := jn_e h
    have J86 : ∀ (v20 : Int32), j21 v20 = some out → GG g x 3 Q 0 0 y M 86 [none, none, none] [.int v20] := by
      intro v20 h; subst ej21
      cases h
      exact g_iret0 C R tb_X5_joined_0_ok (i := 24) rfl
    obtain ⟨t22, f23⟩ := br_e h
    refine g_icmp_ge C tb_X5_joined_0_ok (i := 20) 85 rfl rfl (fun c => ?_) (fun c => ?_)
    · have h := t22 c
      refine g_iconstv C tb_X5_joined_0_ok (i := 23) 0 rfl k_iconstv_0 ?_
      exact g_less (L' := [none, none, none]) trivial (J86 (0 : Int32) h)
    · have h := f23 c
      refine g_iconstv C tb_X5_joined_0_ok (i := 21) 1 rfl k_iconstv_1 ?_
      refine g_goto C tb_X5_joined_0_ok (i := 22) 86 rfl rfl ?_
      exact g_less (L' := [none, none, none]) trivial (J86 (1 : Int32) h)
  have h := f25 hs986
  obtain ⟨t31, f32⟩ := br_e h
  by_cases hs987 : a0 = ((-13) : Int32)
  · have h := t31 hs987
    refine g_tableIn C tb_X5_joined_0_ok (i := 1) (-13) 110 109 rfl hs987 (by decide) rfl ?_
    refine g_iload_n C tb_X5_joined_1_ok (i := 4) rfl rfl ?_
    obtain ⟨j27, ej27, h⟩ := jn_e h
    have J121 : ∀ (v26 : Int32), j27 v26 = some out → GG g x 3 Q 0 0 y M 121 [none, none, none] [.int v26] := by
      intro v26 h; subst ej27
      cases h
      exact g_iret0 C R tb_X5_joined_1_ok (i := 11) rfl
    obtain ⟨t28, f29⟩ := br_e h
    refine g_if_ne C tb_X5_joined_1_ok (i := 5) 118 rfl rfl (fun c => ?_) (fun c => ?_)
    · have h := f29 c
      refine g_iload_n C tb_X5_joined_1_ok (i := 8) rfl rfl ?_
      refine g_iload_n C tb_X5_joined_1_ok (i := 9) rfl rfl ?_
      obtain ⟨n30, h⟩ := gd_e h
      refine g_idiv C tb_X5_joined_1_ok (i := 10) rfl n30 ?_
      exact g_less (L' := [none, none, none]) trivial (J121 (a1 / a2) h)
    · have h := t28 c
      refine g_iconstv C tb_X5_joined_1_ok (i := 6) 0 rfl k_iconstv_0 ?_
      refine g_goto C tb_X5_joined_1_ok (i := 7) 121 rfl rfl ?_
      exact g_less (L' := [none, none, none]) trivial (J121 (0 : Int32) h)
  have h := f32 hs987
  obtain ⟨t40, f41⟩ := br_e h
  by_cases hs988 : a0 = ((-12) : Int32)
  · have h := t40 hs988
    refine g_tableIn C tb_X5_joined_0_ok (i := 1) (-12) 62 61 rfl hs988 (by decide) rfl ?_
    refine g_iload_n C tb_X5_joined_0_ok (i := 10) rfl rfl ?_
    obtain ⟨j34, ej34, h⟩ := jn_e h
    have J75 : ∀ (v33 : Int32), j34 v33 = some out → GG g x 3 Q 0 0 y M 75 [none, none, none] [.int v33] := by
      intro v33 h; subst ej34
      cases h
      exact g_iret0 C R tb_X5_joined_0_ok (i := 17) rfl
    obtain ⟨j35, ej35, h⟩ := jn_e h
    have J74 : ∀ (_u : Unit), j35 _u = some out → GG g x 3 Q 0 0 y M 74 [none, none, none] [] := by
      intro _u h; subst ej35
      refine g_iconstv C tb_X5_joined_0_ok (i := 16) 0 rfl k_iconstv_0 ?_
      exact g_less (L' := [none, none, none]) trivial (J75 (0 : Int32) h)
    obtain ⟨t36, f37⟩ := br_e h
    refine g_if_eq C tb_X5_joined_0_ok (i := 11) 74 rfl rfl (fun c => ?_) (fun c => ?_)
    · have h := t36 c
      exact g_less (L' := [none, none, none]) trivial (J74 () h)
    · have h := f37 c
      refine g_iload_n C tb_X5_joined_0_ok (i := 12) rfl rfl ?_
      obtain ⟨t38, f39⟩ := br_e h
      refine g_if_eq C tb_X5_joined_0_ok (i := 13) 74 rfl rfl (fun c => ?_) (fun c => ?_)
      · have h := t38 c
        exact g_less (L' := [none, none, none]) trivial (J74 () h)
      · have h := f39 c
        refine g_iconstv C tb_X5_joined_0_ok (i := 14) 1 rfl k_iconstv_1 ?_
        refine g_goto C tb_X5_joined_0_ok (i := 15) 75 rfl rfl ?_
        exact g_less (L' := [none, none, none]) trivial (J75 (1 : Int32) h)
  have h := f41 hs988
  have hlast : a0 = ((-11) : Int32) := i32_sw (l := [((-18) : Int32), ((-17) : Int32), ((-16) : Int32), ((-15) : Int32), ((-14) : Int32), ((-13) : Int32), ((-12) : Int32)]) (n := 7) hsw (by decide +kernel) (i32_ne [((-18) : Int32), ((-17) : Int32), ((-16) : Int32), ((-15) : Int32), ((-14) : Int32), ((-13) : Int32), ((-12) : Int32)] rfl (by intro c hc; simp only [List.mem_cons, List.not_mem_nil, or_false] at hc; rcases hc with rfl | rfl | rfl | rfl | rfl | rfl | rfl <;> assumption))
  refine g_tableIn C tb_X5_joined_0_ok (i := 1) (-11) 48 47 rfl hlast (by decide) rfl ?_
  refine g_iload_n C tb_X5_joined_0_ok (i := 2) rfl rfl ?_
  obtain ⟨j43, ej43, h⟩ := jn_e h
  have J61 : ∀ (v42 : Int32), j43 v42 = some out → GG g x 3 Q 0 0 y M 61 [none, none, none] [.int v42] := by
    intro v42 h; subst ej43
    cases h
    exact g_iret0 C R tb_X5_joined_0_ok (i := 9) rfl
  obtain ⟨j44, ej44, h⟩ := jn_e h
  have J56 : ∀ (_u : Unit), j44 _u = some out → GG g x 3 Q 0 0 y M 56 [none, none, none] [] := by
    intro _u h; subst ej44
    refine g_iconstv C tb_X5_joined_0_ok (i := 6) 1 rfl k_iconstv_1 ?_
    refine g_goto C tb_X5_joined_0_ok (i := 7) 61 rfl rfl ?_
    exact g_less (L' := [none, none, none]) trivial (J61 (1 : Int32) h)
  obtain ⟨t45, f46⟩ := br_e h
  refine g_if_ne C tb_X5_joined_0_ok (i := 3) 56 rfl rfl (fun c => ?_) (fun c => ?_)
  · have h := f46 c
    exact g_less (L' := [none, none, none]) trivial (J56 () h)
  · have h := t45 c
    refine g_iload_n C tb_X5_joined_0_ok (i := 4) rfl rfl ?_
    obtain ⟨t47, f48⟩ := br_e h
    refine g_if_eq C tb_X5_joined_0_ok (i := 5) 60 rfl rfl (fun c => ?_) (fun c => ?_)
    · have h := t47 c
      refine g_iconstv C tb_X5_joined_0_ok (i := 8) 0 rfl k_iconstv_0 ?_
      exact g_less (L' := [none, none, none]) trivial (J61 (0 : Int32) h)
    · have h := f48 c
      exact g_less (L' := [none, none, none]) trivial (J56 () h)
def f_X5_worth (y : Lay) (a0 : Nat) (a1 : Nat) (M : Mem) : Option (Int32 × Mem) := fixN (fun _ _ _ => none) (fun (s4 : Int32 → Int32 → Mem → Option (Int32 × Mem)) (v1 : Int32) (v2 : Int32) (M3 : Mem) => gK y a0 (0, 5) (jn (fun (_u : Unit) => jn (fun (v8 : Int32) => some (v8, M3)) fun j9 => br (v1 < (1 : Int32)) (j9 (0 : Int32)) (gN (y.2.1 a0 1) (gA y (y.2.1 a0 1) 1 (v1 - (1 : Int32)) (j9 (M3.1 (y.2.1 a0 1) (v1 - (1 : Int32)).toNatClampNeg))))) fun j7 => br ((M3.1 a0 2) ≤ v2) (j7 ()) (gN (y.2.1 a0 0) (gT y (y.2.1 a0 0) 1 (br ((Int32.ofNat (kd y (y.2.1 a0 0)).2) ≤ v2) (j7 ()) (gA y (y.2.1 a0 0) 1 v2 (lt (M3.1 (y.2.1 a0 0) v2.toNatClampNeg) fun (v21 : Int32) => jn (fun (v22 : Int32) (M23 : Mem) => lt (v2 + (1 : Int32)) fun (v25 : Int32) => s4 v22 v25 M23) fun j24 => br (v21 < ((-6) : Int32)) (br (v21 = ((-13) : Int32)) (br (v1 < (1 : Int32)) (j24 v1 M3) (gN (y.2.1 a0 1) (gA y (y.2.1 a0 1) 1 (v1 - (1 : Int32)) (jn (fun (v43 : Int32) => gA y (y.2.1 a0 1) 1 (v1 - (1 : Int32)) (lt (wI M3 (y.2.1 a0 1) (v1 - (1 : Int32)).toNatClampNeg v43) fun (M46 : Mem) => j24 v1 M46)) fun j44 => br ((M3.1 (y.2.1 a0 1) (v1 - (1 : Int32)).toNatClampNeg) = 0) (j44 (1 : Int32)) (j44 (0 : Int32)))))) (br (v1 < (2 : Int32)) (j24 v1 M3) (lt (v1 + ((-1) : Int32)) fun (v32 : Int32) => gN (y.2.1 a0 1) (gA y (y.2.1 a0 1) 1 (v32 - (1 : Int32)) (gA y (y.2.1 a0 1) 1 v32 (cp (f_X5_joined y v21 (M3.1 (y.2.1 a0 1) (v32 - (1 : Int32)).toNatClampNeg) (M3.1 (y.2.1 a0 1) v32.toNatClampNeg) M3) fun (r36 : Int32) => gA y (y.2.1 a0 1) 1 (v32 - (1 : Int32)) (lt (wI M3 (y.2.1 a0 1) (v32 - (1 : Int32)).toNatClampNeg r36) fun (M38 : Mem) => j24 v32 M38))))))) (lt (((-1) : Int32) - v21) fun (v49 : Int32) => jn (fun (v50 : Int32) (M51 : Mem) => j24 v50 M51) fun j52 => br ((40 : Int32) ≤ v1) (j52 v1 M3) (gN (y.2.1 a0 1) (jn (fun (v56 : Int32) => gA y (y.2.1 a0 1) 1 v1 (lt (wI M3 (y.2.1 a0 1) v1.toNatClampNeg v56) fun (M59 : Mem) => lt (v1 + (1 : Int32)) fun (v60 : Int32) => j52 v60 M59)) fun j57 => jn (fun (_u : Unit) => j57 v21) fun j61 => br (v49 < 0) (j61 ()) (gT y a1 1 (br ((Int32.ofNat (kd y a1).2) ≤ v49) (j61 ()) (gA y a1 1 v49 (j57 (M3.1 a1 v49.toNatClampNeg))))))))))))))) FUEL (0 : Int32) (0 : Int32) M
theorem w_X5_worth {g : GX} {l : Launch} (hG : GF g l) (y : Lay) (a0 : Nat) (a1 : Nat) (M : Mem) : C0 g l yX5_worth cX5_worth 6 (some .int) 1 y [.ref a0, .ref a1] M (f_X5_worth y a0 a1 M) := by
  refine C0_of hG (by decide) [some (.ref a0), some (.ref a1), none, none, none, none] rfl rfl (fun out h x Q C R => ?_)
  unfold f_X5_worth at h
  refine g_iconstv C tb_X5_worth_0_ok (i := 0) 0 rfl k_iconstv_0 ?_
  refine g_istore_n C tb_X5_worth_0_ok (i := 1) rfl rfl rfl ?_
  refine g_iconstv C tb_X5_worth_0_ok (i := 2) 0 rfl k_iconstv_0 ?_
  refine g_istore_n C tb_X5_worth_0_ok (i := 3) rfl rfl rfl ?_
  refine g_less (L' := [some (.ref a0), some (.ref a1), some (.int (0 : Int32)), some (.int (0 : Int32)), none, none]) ⟨rfl, ⟨rfl, ⟨rfl, ⟨rfl, trivial⟩⟩⟩⟩ ?_
  refine fix_i (P := fun (f : Int32 → Int32 → Mem → Option (Int32 × Mem)) => ∀ (v1 : Int32) (v2 : Int32) (M3 : Mem), f v1 v2 M3 = some out → GG g x 6 Q 0 0 y M3 4 [some (.ref a0), some (.ref a1), some (.int v1), some (.int v2), none, none] []) ?_ ?_ _ (0 : Int32) (0 : Int32) M h
  · intro v1 v2 M3 h; exact (nn_e h).elim
  · intro s4 ih5 v1 v2 M3 h
    refine g_iload_n C tb_X5_worth_0_ok (i := 4) rfl rfl ?_
    refine g_aload_n C tb_X5_worth_0_ok (i := 5) rfl rfl ?_
    obtain ⟨k6, h⟩ := gK_e h
    refine g_getI C tb_X5_worth_0_ok (i := 6) rfl fl_X5_18 rfl k6 ?_
    obtain ⟨j7, ej7, h⟩ := jn_e h
    have J161 : ∀ (_u : Unit), j7 _u = some out → GG g x 6 Q 0 0 y M3 161 [some (.ref a0), none, some (.int v1), none, none, none] [] := by
      intro _u h; subst ej7
      refine g_iload_n C tb_X5_worth_2_ok (i := 12) rfl rfl ?_
      refine g_iconstv C tb_X5_worth_2_ok (i := 13) 1 rfl k_iconstv_1 ?_
      obtain ⟨j9, ej9, h⟩ := jn_e h
      have J178 : ∀ (v8 : Int32), j9 v8 = some out → GG g x 6 Q 0 0 y M3 178 [none, none, none, none, none, none] [.int v8] := by
        intro v8 h; subst ej9
        cases h
        exact g_iret0 C R tb_X5_worth_2_ok (i := 23) rfl
      obtain ⟨t10, f11⟩ := br_e h
      refine g_icmp_lt C tb_X5_worth_2_ok (i := 14) 177 rfl rfl (fun c => ?_) (fun c => ?_)
      · have h := t10 c
        refine g_iconstv C tb_X5_worth_2_ok (i := 22) 0 rfl k_iconstv_0 ?_
        exact g_less (L' := [none, none, none, none, none, none]) trivial (J178 (0 : Int32) h)
      · have h := f11 c
        refine g_aload_n C tb_X5_worth_2_ok (i := 15) rfl rfl ?_
        obtain ⟨n12, h⟩ := gN_e h
        refine g_getR C tb_X5_worth_2_ok (i := 16) rfl fl_X5_15 rfl k6 n12 ?_
        refine g_iload_n C tb_X5_worth_2_ok (i := 17) rfl rfl ?_
        refine g_iconstv C tb_X5_worth_2_ok (i := 18) 1 rfl k_iconstv_1 ?_
        refine g_isub C tb_X5_worth_2_ok (i := 19) rfl ?_
        obtain ⟨b13, h⟩ := gA_e h
        refine g_iald C tb_X5_worth_2_ok (i := 20) rfl b13 ?_
        refine g_goto C tb_X5_worth_2_ok (i := 21) 178 rfl rfl ?_
        exact g_less (L' := [none, none, none, none, none, none]) trivial (J178 (M3.1 (y.2.1 a0 1) (v1 - (1 : Int32)).toNatClampNeg) h)
    obtain ⟨t14, f15⟩ := br_e h
    refine g_icmp_ge C tb_X5_worth_0_ok (i := 7) 161 rfl rfl (fun c => ?_) (fun c => ?_)
    · have h := t14 c
      exact g_less (L' := [some (.ref a0), none, some (.int v1), none, none, none]) ⟨rfl, ⟨rfl, trivial⟩⟩ (J161 () h)
    · have h := f15 c
      refine g_iload_n C tb_X5_worth_0_ok (i := 8) rfl rfl ?_
      refine g_aload_n C tb_X5_worth_0_ok (i := 9) rfl rfl ?_
      obtain ⟨n16, h⟩ := gN_e h
      refine g_getR C tb_X5_worth_0_ok (i := 10) rfl fl_X5_9 rfl k6 n16 ?_
      obtain ⟨b17, h⟩ := gT_e h
      refine g_alen C tb_X5_worth_0_ok (i := 11) rfl b17 (by decide) ?_
      obtain ⟨t18, f19⟩ := br_e h
      refine g_icmp_ge C tb_X5_worth_0_ok (i := 12) 161 rfl rfl (fun c => ?_) (fun c => ?_)
      · have h := t18 c
        exact g_less (L' := [some (.ref a0), none, some (.int v1), none, none, none]) ⟨rfl, ⟨rfl, trivial⟩⟩ (J161 () h)
      · have h := f19 c
        refine g_aload_n C tb_X5_worth_0_ok (i := 13) rfl rfl ?_
        refine g_getR C tb_X5_worth_0_ok (i := 14) rfl fl_X5_9 rfl k6 n16 ?_
        refine g_iload_n C tb_X5_worth_0_ok (i := 15) rfl rfl ?_
        obtain ⟨b20, h⟩ := gA_e h
        refine g_iald C tb_X5_worth_0_ok (i := 16) rfl b20 ?_
        refine g_topi (fun v21 ev21 => ?_)
        have h := lt_e ev21 h
        refine g_istore C tb_X5_worth_0_ok (i := 17) rfl rfl rfl ?_
        refine g_iload C tb_X5_worth_0_ok (i := 18) rfl rfl ?_
        refine g_bipushv C tb_X5_worth_0_ok (i := 19) (-6) rfl k_bipushv_m6 ?_
        obtain ⟨j24, ej24, h⟩ := jn_e h
        have J155 : ∀ (v22 : Int32) (M23 : Mem), j24 v22 M23 = some out → GG g x 6 Q 0 0 y M23 155 [some (.ref a0), some (.ref a1), some (.int v22), some (.int v2), none, none] [] := by
          intro v22 M23 h; subst ej24
          obtain ⟨v25, ev25⟩ : ∃ w : Int32, w = v2 + (1 : Int32) := ⟨_, rfl⟩
          have h := lt_e ev25 h
          refine g_iincv C tb_X5_worth_2_ok (i := 10) (1 : Int32) ev25 rfl rfl k_iconstv_1 rfl rfl ?_
          refine g_goto C tb_X5_worth_2_ok (i := 11) 4 rfl rfl ?_
          exact g_less (L' := [some (.ref a0), some (.ref a1), some (.int v22), some (.int v25), none, none]) ⟨rfl, ⟨rfl, ⟨rfl, ⟨rfl, trivial⟩⟩⟩⟩ (ih5 v22 v25 M23 h)
        obtain ⟨t26, f27⟩ := br_e h
        refine g_icmp_lt C tb_X5_worth_0_ok (i := 20) 81 rfl rfl (fun c => ?_) (fun c => ?_)
        · have h := t26 c
          refine g_iload C tb_X5_worth_1_ok (i := 5) rfl rfl ?_
          refine g_bipushv C tb_X5_worth_1_ok (i := 6) (-13) rfl k_bipushv_m13 ?_
          obtain ⟨t28, f29⟩ := br_e h
          refine g_icmp_ne C tb_X5_worth_1_ok (i := 7) 120 rfl rfl (fun c => ?_) (fun c => ?_)
          · have h := f29 c
            refine g_iload_n C tb_X5_worth_1_ok (i := 28) rfl rfl ?_
            refine g_iconstv C tb_X5_worth_1_ok (i := 29) 2 rfl k_iconstv_2 ?_
            obtain ⟨t30, f31⟩ := br_e h
            refine g_icmp_lt C tb_X5_worth_1_ok (i := 30) 155 rfl rfl (fun c => ?_) (fun c => ?_)
            · have h := t30 c
              exact g_less (L' := [some (.ref a0), some (.ref a1), some (.int v1), some (.int v2), none, none]) ⟨rfl, ⟨rfl, ⟨rfl, ⟨rfl, trivial⟩⟩⟩⟩ (J155 v1 M3 h)
            · have h := f31 c
              obtain ⟨v32, ev32⟩ : ∃ w : Int32, w = v1 + ((-1) : Int32) := ⟨_, rfl⟩
              have h := lt_e ev32 h
              refine g_iincv C tb_X5_worth_1_ok (i := 31) ((-1) : Int32) ev32 rfl rfl k_iconstv_m1 rfl rfl ?_
              refine g_aload_n C tb_X5_worth_1_ok (i := 32) rfl rfl ?_
              obtain ⟨n33, h⟩ := gN_e h
              refine g_getR C tb_X5_worth_1_ok (i := 33) rfl fl_X5_15 rfl k6 n33 ?_
              refine g_iload_n C tb_X5_worth_1_ok (i := 34) rfl rfl ?_
              refine g_iconstv C tb_X5_worth_1_ok (i := 35) 1 rfl k_iconstv_1 ?_
              refine g_isub C tb_X5_worth_1_ok (i := 36) rfl ?_
              refine g_iload C tb_X5_worth_1_ok (i := 37) rfl rfl ?_
              refine g_aload_n C tb_X5_worth_1_ok (i := 38) rfl rfl ?_
              refine g_getR C tb_X5_worth_1_ok (i := 39) rfl fl_X5_15 rfl k6 n33 ?_
              refine g_iload_n C tb_X5_worth_2_ok (i := 0) rfl rfl ?_
              refine g_iconstv C tb_X5_worth_2_ok (i := 1) 1 rfl k_iconstv_1 ?_
              refine g_isub C tb_X5_worth_2_ok (i := 2) rfl ?_
              obtain ⟨b34, h⟩ := gA_e h
              refine g_iald C tb_X5_worth_2_ok (i := 3) rfl b34 ?_
              refine g_aload_n C tb_X5_worth_2_ok (i := 4) rfl rfl ?_
              refine g_getR C tb_X5_worth_2_ok (i := 5) rfl fl_X5_15 rfl k6 n33 ?_
              refine g_iload_n C tb_X5_worth_2_ok (i := 6) rfl rfl ?_
              obtain ⟨b35, h⟩ := gA_e h
              refine g_iald C tb_X5_worth_2_ok (i := 7) rfl b35 ?_
              obtain ⟨r36, er36, h⟩ := cp_e h
              refine g_callS0 C tb_X5_worth_2_ok (i := 8) [.int v21, .int (M3.1 (y.2.1 a0 1) (v32 - (1 : Int32)).toNatClampNeg), .int (M3.1 (y.2.1 a0 1) v32.toNatClampNeg)] rfl mw_X5_joined mst_X5_joined ml_X5_32 rfl rfl rfl rfl (w_X5_joined C.G y v21 (M3.1 (y.2.1 a0 1) (v32 - (1 : Int32)).toNatClampNeg) (M3.1 (y.2.1 a0 1) v32.toNatClampNeg) M3) (pm_s er36) rfl rfl rfl ?_
              obtain ⟨b37, h⟩ := gA_e h
              refine g_iast C tb_X5_worth_2_ok (i := 9) rfl b37 ?_
              refine g_mem (fun M38 eM38 => ?_)
              have h := lt_e eM38 h
              exact g_less (L' := [some (.ref a0), some (.ref a1), some (.int v32), some (.int v2), none, none]) ⟨rfl, ⟨rfl, ⟨rfl, ⟨rfl, trivial⟩⟩⟩⟩ (J155 v32 M38 h)
          · have h := t28 c
            refine g_iload_n C tb_X5_worth_1_ok (i := 8) rfl rfl ?_
            refine g_iconstv C tb_X5_worth_1_ok (i := 9) 1 rfl k_iconstv_1 ?_
            obtain ⟨t39, f40⟩ := br_e h
            refine g_icmp_lt C tb_X5_worth_1_ok (i := 10) 155 rfl rfl (fun c => ?_) (fun c => ?_)
            · have h := t39 c
              exact g_less (L' := [some (.ref a0), some (.ref a1), some (.int v1), some (.int v2), none, none]) ⟨rfl, ⟨rfl, ⟨rfl, ⟨rfl, trivial⟩⟩⟩⟩ (J155 v1 M3 h)
            · have h := f40 c
              refine g_aload_n C tb_X5_worth_1_ok (i := 11) rfl rfl ?_
              obtain ⟨n41, h⟩ := gN_e h
              refine g_getR C tb_X5_worth_1_ok (i := 12) rfl fl_X5_15 rfl k6 n41 ?_
              refine g_iload_n C tb_X5_worth_1_ok (i := 13) rfl rfl ?_
              refine g_iconstv C tb_X5_worth_1_ok (i := 14) 1 rfl k_iconstv_1 ?_
              refine g_isub C tb_X5_worth_1_ok (i := 15) rfl ?_
              refine g_aload_n C tb_X5_worth_1_ok (i := 16) rfl rfl ?_
              refine g_getR C tb_X5_worth_1_ok (i := 17) rfl fl_X5_15 rfl k6 n41 ?_
              refine g_iload_n C tb_X5_worth_1_ok (i := 18) rfl rfl ?_
              refine g_iconstv C tb_X5_worth_1_ok (i := 19) 1 rfl k_iconstv_1 ?_
              refine g_isub C tb_X5_worth_1_ok (i := 20) rfl ?_
              obtain ⟨b42, h⟩ := gA_e h
              refine g_iald C tb_X5_worth_1_ok (i := 21) rfl b42 ?_
              obtain ⟨j44, ej44, h⟩ := jn_e h
              have J116 : ∀ (v43 : Int32), j44 v43 = some out → GG g x 6 Q 0 0 y M3 116 [some (.ref a0), some (.ref a1), some (.int v1), some (.int v2), none, none] [.int v43, .int (v1 - (1 : Int32)), .ref (y.2.1 a0 1)] := by
                intro v43 h; subst ej44
                obtain ⟨b45, h⟩ := gA_e h
                refine g_iast C tb_X5_worth_1_ok (i := 26) rfl b45 ?_
                refine g_mem (fun M46 eM46 => ?_)
                have h := lt_e eM46 h
                refine g_goto C tb_X5_worth_1_ok (i := 27) 155 rfl rfl ?_
                exact g_less (L' := [some (.ref a0), some (.ref a1), some (.int v1), some (.int v2), none, none]) ⟨rfl, ⟨rfl, ⟨rfl, ⟨rfl, trivial⟩⟩⟩⟩ (J155 v1 M46 h)
              obtain ⟨t47, f48⟩ := br_e h
              refine g_if_ne C tb_X5_worth_1_ok (i := 22) 115 rfl rfl (fun c => ?_) (fun c => ?_)
              · have h := f48 c
                refine g_iconstv C tb_X5_worth_1_ok (i := 25) 0 rfl k_iconstv_0 ?_
                exact g_less (L' := [some (.ref a0), some (.ref a1), some (.int v1), some (.int v2), none, none]) ⟨rfl, ⟨rfl, ⟨rfl, ⟨rfl, trivial⟩⟩⟩⟩ (J116 (0 : Int32) h)
              · have h := t47 c
                refine g_iconstv C tb_X5_worth_1_ok (i := 23) 1 rfl k_iconstv_1 ?_
                refine g_goto C tb_X5_worth_1_ok (i := 24) 116 rfl rfl ?_
                exact g_less (L' := [some (.ref a0), some (.ref a1), some (.int v1), some (.int v2), none, none]) ⟨rfl, ⟨rfl, ⟨rfl, ⟨rfl, trivial⟩⟩⟩⟩ (J116 (1 : Int32) h)
        · have h := f27 c
          refine g_iconstv C tb_X5_worth_0_ok (i := 21) (-1) rfl k_iconstv_m1 ?_
          refine g_iload C tb_X5_worth_0_ok (i := 22) rfl rfl ?_
          refine g_isub C tb_X5_worth_0_ok (i := 23) rfl ?_
          refine g_topi (fun v49 ev49 => ?_)
          have h := lt_e ev49 h
          refine g_istore C tb_X5_worth_0_ok (i := 24) rfl rfl rfl ?_
          refine g_iload_n C tb_X5_worth_0_ok (i := 25) rfl rfl ?_
          refine g_bipushv C tb_X5_worth_0_ok (i := 26) 40 rfl k_bipushv_40 ?_
          obtain ⟨j52, ej52, h⟩ := jn_e h
          have J78 : ∀ (v50 : Int32) (M51 : Mem), j52 v50 M51 = some out → GG g x 6 Q 0 0 y M51 78 [some (.ref a0), some (.ref a1), some (.int v50), some (.int v2), none, none] [] := by
            intro v50 M51 h; subst ej52
            refine g_goto C tb_X5_worth_1_ok (i := 4) 155 rfl rfl ?_
            exact g_less (L' := [some (.ref a0), some (.ref a1), some (.int v50), some (.int v2), none, none]) ⟨rfl, ⟨rfl, ⟨rfl, ⟨rfl, trivial⟩⟩⟩⟩ (J155 v50 M51 h)
          obtain ⟨t53, f54⟩ := br_e h
          refine g_icmp_ge C tb_X5_worth_0_ok (i := 27) 78 rfl rfl (fun c => ?_) (fun c => ?_)
          · have h := t53 c
            exact g_less (L' := [some (.ref a0), some (.ref a1), some (.int v1), some (.int v2), none, none]) ⟨rfl, ⟨rfl, ⟨rfl, ⟨rfl, trivial⟩⟩⟩⟩ (J78 v1 M3 h)
          · have h := f54 c
            refine g_aload_n C tb_X5_worth_0_ok (i := 28) rfl rfl ?_
            obtain ⟨n55, h⟩ := gN_e h
            refine g_getR C tb_X5_worth_0_ok (i := 29) rfl fl_X5_15 rfl k6 n55 ?_
            refine g_iload_n C tb_X5_worth_0_ok (i := 30) rfl rfl ?_
            refine g_iload C tb_X5_worth_0_ok (i := 31) rfl rfl ?_
            obtain ⟨j57, ej57, h⟩ := jn_e h
            have J74 : ∀ (v56 : Int32), j57 v56 = some out → GG g x 6 Q 0 0 y M3 74 [some (.ref a0), some (.ref a1), some (.int v1), some (.int v2), none, none] [.int v56, .int v1, .ref (y.2.1 a0 1)] := by
              intro v56 h; subst ej57
              obtain ⟨b58, h⟩ := gA_e h
              refine g_iast C tb_X5_worth_1_ok (i := 2) rfl b58 ?_
              refine g_mem (fun M59 eM59 => ?_)
              have h := lt_e eM59 h
              obtain ⟨v60, ev60⟩ : ∃ w : Int32, w = v1 + (1 : Int32) := ⟨_, rfl⟩
              have h := lt_e ev60 h
              refine g_iincv C tb_X5_worth_1_ok (i := 3) (1 : Int32) ev60 rfl rfl k_iconstv_1 rfl rfl ?_
              exact g_less (L' := [some (.ref a0), some (.ref a1), some (.int v60), some (.int v2), none, none]) ⟨rfl, ⟨rfl, ⟨rfl, ⟨rfl, trivial⟩⟩⟩⟩ (J78 v60 M59 h)
            obtain ⟨j61, ej61, h⟩ := jn_e h
            have J72 : ∀ (_u : Unit), j61 _u = some out → GG g x 6 Q 0 0 y M3 72 [some (.ref a0), some (.ref a1), some (.int v1), some (.int v2), some (.int v21), none] [.int v1, .ref (y.2.1 a0 1)] := by
              intro _u h; subst ej61
              refine g_iload C tb_X5_worth_1_ok (i := 1) rfl rfl ?_
              exact g_less (L' := [some (.ref a0), some (.ref a1), some (.int v1), some (.int v2), none, none]) ⟨rfl, ⟨rfl, ⟨rfl, ⟨rfl, trivial⟩⟩⟩⟩ (J74 v21 h)
            obtain ⟨t62, f63⟩ := br_e h
            refine g_if_lt C tb_X5_worth_0_ok (i := 32) 72 rfl rfl (fun c => ?_) (fun c => ?_)
            · have h := t62 c
              exact g_less (L' := [some (.ref a0), some (.ref a1), some (.int v1), some (.int v2), some (.int v21), none]) ⟨rfl, ⟨rfl, ⟨rfl, ⟨rfl, ⟨rfl, trivial⟩⟩⟩⟩⟩ (J72 () h)
            · have h := f63 c
              refine g_iload C tb_X5_worth_0_ok (i := 33) rfl rfl ?_
              refine g_aload_n C tb_X5_worth_0_ok (i := 34) rfl rfl ?_
              obtain ⟨b64, h⟩ := gT_e h
              refine g_alen C tb_X5_worth_0_ok (i := 35) rfl b64 (by decide) ?_
              obtain ⟨t65, f66⟩ := br_e h
              refine g_icmp_ge C tb_X5_worth_0_ok (i := 36) 72 rfl rfl (fun c => ?_) (fun c => ?_)
              · have h := t65 c
                exact g_less (L' := [some (.ref a0), some (.ref a1), some (.int v1), some (.int v2), some (.int v21), none]) ⟨rfl, ⟨rfl, ⟨rfl, ⟨rfl, ⟨rfl, trivial⟩⟩⟩⟩⟩ (J72 () h)
              · have h := f66 c
                refine g_aload_n C tb_X5_worth_0_ok (i := 37) rfl rfl ?_
                refine g_iload C tb_X5_worth_0_ok (i := 38) rfl rfl ?_
                obtain ⟨b67, h⟩ := gA_e h
                refine g_iald C tb_X5_worth_0_ok (i := 39) rfl b67 ?_
                refine g_goto C tb_X5_worth_1_ok (i := 0) 74 rfl rfl ?_
                exact g_less (L' := [some (.ref a0), some (.ref a1), some (.int v1), some (.int v2), none, none]) ⟨rfl, ⟨rfl, ⟨rfl, ⟨rfl, trivial⟩⟩⟩⟩ (J74 (M3.1 a1 v49.toNatClampNeg) h)
def f_X8_dyeOf (y : Lay) (a0 : Nat) (a1 : Int32) (a2 : Int32) (M : Mem) : Option (Int32 × Mem) := gK y a0 (0, 8) (gN (y.2.1 a0 0) (gK y (y.2.1 a0 0) (0, 1) (gN (y.2.1 (y.2.1 a0 0) 7) (gK y (y.2.1 (y.2.1 a0 0) 7) (0, 5) (cp (f_X5_isTold y (y.2.1 (y.2.1 a0 0) 7) M) fun (r6 : Int32) => br (r6 = 0) (cp (f_X8_skillOf y a0 a1 M) fun (r20 : Int32) => some ((((2 : Int32) * r20) + (3 : Int32)), M)) (cp (f_X8_spotOf y a0 a1 M) fun (r9 : Int32) => c0 (f_X8_setValues y a0 r9 M) fun (r10 : Int32) (M11 : Mem) => gN (y.2.1 a0 6) (cp (f_X8_skillOf y a0 a1 M11) fun (r13 : Int32) => gA y (y.2.1 a0 6) 1 (4 : Int32) (lt (wI M11 (y.2.1 a0 6) (4 : Int32).toNatClampNeg r13) fun (M15 : Mem) => gA y (y.2.1 a0 6) 1 (5 : Int32) (lt (wI M15 (y.2.1 a0 6) (5 : Int32).toNatClampNeg a2) fun (M17 : Mem) => c0 (f_X5_worth y (y.2.1 (y.2.1 a0 0) 7) (y.2.1 a0 6) M17) fun (r18 : Int32) (M19 : Mem) => some ((jmax (0 : Int32) (jmin (30 : Int32) r18)), M19))))))))))
theorem w_X8_dyeOf {g : GX} {l : Launch} (hG : GF g l) (y : Lay) (a0 : Nat) (a1 : Int32) (a2 : Int32) (M : Mem) : C0 g l yX8_dyeOf cX8_dyeOf 3 (some .int) 2 y [.ref a0, .int a1, .int a2] M (f_X8_dyeOf y a0 a1 a2 M) := by
  refine C0_of hG (by decide) [some (.ref a0), some (.int a1), some (.int a2)] rfl rfl (fun out h x Q C R => ?_)
  unfold f_X8_dyeOf at h
  refine g_aload_n C tb_X8_dyeOf_0_ok (i := 0) rfl rfl ?_
  obtain ⟨k1, h⟩ := gK_e h
  obtain ⟨n2, h⟩ := gN_e h
  refine g_getR C tb_X8_dyeOf_0_ok (i := 1) rfl fl_X8_32 rfl k1 n2 ?_
  obtain ⟨k3, h⟩ := gK_e h
  obtain ⟨n4, h⟩ := gN_e h
  refine g_getR C tb_X8_dyeOf_0_ok (i := 2) rfl fl_X8_154 rfl k3 n4 ?_
  obtain ⟨k5, h⟩ := gK_e h
  obtain ⟨r6, er6, h⟩ := cp_e h
  refine g_callV0 C tb_X8_dyeOf_0_ok (i := 3) [] rfl mw_X5_isTold mv_X5_isTold ml_X8_114 k5 rfl rfl rfl rfl (w_X5_isTold C.G y (y.2.1 (y.2.1 a0 0) 7) M) (pm_s er6) rfl rfl rfl ?_
  obtain ⟨t7, f8⟩ := br_e h
  refine g_if_ne C tb_X8_dyeOf_0_ok (i := 4) 23 rfl rfl (fun c => ?_) (fun c => ?_)
  · have h := f8 c
    refine g_aload_n C tb_X8_dyeOf_0_ok (i := 13) rfl rfl ?_
    refine g_aload_n C tb_X8_dyeOf_0_ok (i := 14) rfl rfl ?_
    refine g_iload_n C tb_X8_dyeOf_0_ok (i := 15) rfl rfl ?_
    obtain ⟨r9, er9, h⟩ := cp_e h
    refine g_callV0 C tb_X8_dyeOf_0_ok (i := 16) [.int a1] rfl mw_X8_spotOf mv_X8_spotOf ml_X8_132 k1 rfl rfl rfl rfl (w_X8_spotOf C.G y a0 a1 M) (pm_s er9) rfl rfl rfl ?_
    obtain ⟨r10, M11, er10, h⟩ := c0_e h
    refine g_callV0 C tb_X8_dyeOf_0_ok (i := 17) [.int r9] rfl mw_X8_setValues mv_X8_setValues ml_X8_121 k1 rfl rfl rfl rfl (w_X8_setValues C.G y a0 r9 M) er10 rfl rfl rfl ?_
    refine g_aload_n C tb_X8_dyeOf_0_ok (i := 18) rfl rfl ?_
    obtain ⟨n12, h⟩ := gN_e h
    refine g_getR C tb_X8_dyeOf_0_ok (i := 19) rfl fl_X8_29 rfl k1 n12 ?_
    refine g_iconstv C tb_X8_dyeOf_0_ok (i := 20) 4 rfl k_iconstv_4 ?_
    refine g_aload_n C tb_X8_dyeOf_0_ok (i := 21) rfl rfl ?_
    refine g_iload_n C tb_X8_dyeOf_0_ok (i := 22) rfl rfl ?_
    obtain ⟨r13, er13, h⟩ := cp_e h
    refine g_callV0 C tb_X8_dyeOf_0_ok (i := 23) [.int a1] rfl mw_X8_skillOf mv_X8_skillOf ml_X8_157 k1 rfl rfl rfl rfl (w_X8_skillOf C.G y a0 a1 M11) (pm_s er13) rfl rfl rfl ?_
    obtain ⟨b14, h⟩ := gA_e h
    refine g_iast C tb_X8_dyeOf_0_ok (i := 24) rfl b14 ?_
    refine g_mem (fun M15 eM15 => ?_)
    have h := lt_e eM15 h
    refine g_aload_n C tb_X8_dyeOf_0_ok (i := 25) rfl rfl ?_
    refine g_getR C tb_X8_dyeOf_0_ok (i := 26) rfl fl_X8_29 rfl k1 n12 ?_
    refine g_iconstv C tb_X8_dyeOf_0_ok (i := 27) 5 rfl k_iconstv_5 ?_
    refine g_iload_n C tb_X8_dyeOf_0_ok (i := 28) rfl rfl ?_
    obtain ⟨b16, h⟩ := gA_e h
    refine g_iast C tb_X8_dyeOf_0_ok (i := 29) rfl b16 ?_
    refine g_mem (fun M17 eM17 => ?_)
    have h := lt_e eM17 h
    refine g_iconstv C tb_X8_dyeOf_0_ok (i := 30) 0 rfl k_iconstv_0 ?_
    refine g_bipushv C tb_X8_dyeOf_0_ok (i := 31) 30 rfl k_bipushv_30 ?_
    refine g_aload_n C tb_X8_dyeOf_0_ok (i := 32) rfl rfl ?_
    refine g_getR C tb_X8_dyeOf_0_ok (i := 33) rfl fl_X8_32 rfl k1 n2 ?_
    refine g_getR C tb_X8_dyeOf_0_ok (i := 34) rfl fl_X8_154 rfl k3 n4 ?_
    refine g_aload_n C tb_X8_dyeOf_0_ok (i := 35) rfl rfl ?_
    refine g_getR C tb_X8_dyeOf_0_ok (i := 36) rfl fl_X8_29 rfl k1 n12 ?_
    obtain ⟨r18, M19, er18, h⟩ := c0_e h
    refine g_callV0 C tb_X8_dyeOf_0_ok (i := 37) [.ref (y.2.1 a0 6)] rfl mw_X5_worth mv_X5_worth ml_X8_125 k5 rfl rfl rfl rfl (w_X5_worth C.G y (y.2.1 (y.2.1 a0 0) 7) (y.2.1 a0 6) M17) er18 rfl rfl rfl ?_
    refine g_min C tb_X8_dyeOf_0_ok (i := 38) rfl mt_X8_64 rfl rfl rfl ?_
    refine g_max C tb_X8_dyeOf_0_ok (i := 39) rfl mt_X8_92 rfl rfl rfl ?_
    cases h
    exact g_iret0 C R tb_X8_dyeOf_1_ok (i := 0) rfl
  · have h := t7 c
    refine g_iconstv C tb_X8_dyeOf_0_ok (i := 5) 2 rfl k_iconstv_2 ?_
    refine g_aload_n C tb_X8_dyeOf_0_ok (i := 6) rfl rfl ?_
    refine g_iload_n C tb_X8_dyeOf_0_ok (i := 7) rfl rfl ?_
    obtain ⟨r20, er20, h⟩ := cp_e h
    refine g_callV0 C tb_X8_dyeOf_0_ok (i := 8) [.int a1] rfl mw_X8_skillOf mv_X8_skillOf ml_X8_157 k1 rfl rfl rfl rfl (w_X8_skillOf C.G y a0 a1 M) (pm_s er20) rfl rfl rfl ?_
    refine g_imul C tb_X8_dyeOf_0_ok (i := 9) rfl ?_
    refine g_iconstv C tb_X8_dyeOf_0_ok (i := 10) 3 rfl k_iconstv_3 ?_
    refine g_iadd C tb_X8_dyeOf_0_ok (i := 11) rfl ?_
    cases h
    exact g_iret0 C R tb_X8_dyeOf_0_ok (i := 12) rfl
def f_X8_isPegged (y : Lay) (a0 : Nat) (a1 : Int32) (M : Mem) : Option Int32 := gK y a0 (0, 8) (jn (fun (v2 : Int32) => gd (v2 = 0 ∨ v2 = 1) (some v2)) fun j3 => br ((((M.1 a0 7) >>> (a1 &&& 31)) &&& (1 : Int32)) = 0) (j3 (0 : Int32)) (j3 (1 : Int32)))
theorem w_X8_isPegged {g : GX} {l : Launch} (hG : GF g l) (y : Lay) (a0 : Nat) (a1 : Int32) (M : Mem) : C0 g l yX8_isPegged cX8_isPegged 2 (some .boolean) 0 y [.ref a0, .int a1] M (pm M (f_X8_isPegged y a0 a1 M)) := by
  refine CP_of hG (by decide) [some (.ref a0), some (.int a1)] rfl rfl (fun out h x Q C R => ?_)
  unfold f_X8_isPegged at h
  refine g_aload_n C tb_X8_isPegged_0_ok (i := 0) rfl rfl ?_
  obtain ⟨k1, h⟩ := gK_e h
  refine g_getI C tb_X8_isPegged_0_ok (i := 1) rfl fl_X8_39 rfl k1 ?_
  refine g_iload_n C tb_X8_isPegged_0_ok (i := 2) rfl rfl ?_
  refine g_ishr C tb_X8_isPegged_0_ok (i := 3) rfl ?_
  refine g_iconstv C tb_X8_isPegged_0_ok (i := 4) 1 rfl k_iconstv_1 ?_
  refine g_iand C tb_X8_isPegged_0_ok (i := 5) rfl ?_
  obtain ⟨j3, ej3, h⟩ := jn_e h
  have J16 : ∀ (v2 : Int32), j3 v2 = some out → GG g x 2 Q 0 0 y M 16 [none, none] [.int v2] := by
    intro v2 h; subst ej3
    obtain ⟨hz, h⟩ := gd_e h
    cases h
    exact g_zret0 C R hz tb_X8_isPegged_0_ok (i := 10) rfl
  obtain ⟨t4, f5⟩ := br_e h
  refine g_if_eq C tb_X8_isPegged_0_ok (i := 6) 15 rfl rfl (fun c => ?_) (fun c => ?_)
  · have h := t4 c
    refine g_iconstv C tb_X8_isPegged_0_ok (i := 9) 0 rfl k_iconstv_0 ?_
    exact g_less (L' := [none, none]) trivial (J16 (0 : Int32) h)
  · have h := f5 c
    refine g_iconstv C tb_X8_isPegged_0_ok (i := 7) 1 rfl k_iconstv_1 ?_
    refine g_goto C tb_X8_isPegged_0_ok (i := 8) 16 rfl rfl ?_
    exact g_less (L' := [none, none]) trivial (J16 (1 : Int32) h)
def f_X8_addBlue (y : Lay) (a0 : Nat) (a1 : Int32) (a2 : Int32) (M : Mem) : Option (Int32 × Mem) := jn (fun (M1 : Mem) => some (0, M1)) fun j2 => br (a1 < 0) (j2 M) (br ((30 : Int32) ≤ a1) (j2 M) (gK y a0 (0, 8) (cp (f_X8_isPegged y a0 a1 M) fun (r8 : Int32) => br (r8 = 0) (gN (y.2.1 a0 1) (gA y (y.2.1 a0 1) 1 a1 (gA y (y.2.1 a0 1) 1 a1 (lt (wI M (y.2.1 a0 1) a1.toNatClampNeg (jmin (99 : Int32) ((M.1 (y.2.1 a0 1) a1.toNatClampNeg) + a2))) fun (M14 : Mem) => j2 M14)))) (j2 M))))
theorem w_X8_addBlue {g : GX} {l : Launch} (hG : GF g l) (y : Lay) (a0 : Nat) (a1 : Int32) (a2 : Int32) (M : Mem) : C0 g l yX8_addBlue cX8_addBlue 3 none 1 y [.ref a0, .int a1, .int a2] M (f_X8_addBlue y a0 a1 a2 M) := by
  refine C0_of hG (by decide) [some (.ref a0), some (.int a1), some (.int a2)] rfl rfl (fun out h x Q C R => ?_)
  unfold f_X8_addBlue at h
  refine g_iload_n C tb_X8_addBlue_0_ok (i := 0) rfl rfl ?_
  obtain ⟨j2, ej2, h⟩ := jn_e h
  have J37 : ∀ (M1 : Mem), j2 M1 = some out → GG g x 3 Q 0 0 y M1 37 [none, none, none] [] := by
    intro M1 h; subst ej2
    cases h
    exact g_vret0 C R tb_X8_addBlue_0_ok (i := 21) rfl
  obtain ⟨t3, f4⟩ := br_e h
  refine g_if_lt C tb_X8_addBlue_0_ok (i := 1) 37 rfl rfl (fun c => ?_) (fun c => ?_)
  · have h := t3 c
    exact g_less (L' := [none, none, none]) trivial (J37 M h)
  · have h := f4 c
    refine g_iload_n C tb_X8_addBlue_0_ok (i := 2) rfl rfl ?_
    refine g_bipushv C tb_X8_addBlue_0_ok (i := 3) 30 rfl k_bipushv_30 ?_
    obtain ⟨t5, f6⟩ := br_e h
    refine g_icmp_ge C tb_X8_addBlue_0_ok (i := 4) 37 rfl rfl (fun c => ?_) (fun c => ?_)
    · have h := t5 c
      exact g_less (L' := [none, none, none]) trivial (J37 M h)
    · have h := f6 c
      refine g_aload_n C tb_X8_addBlue_0_ok (i := 5) rfl rfl ?_
      refine g_iload_n C tb_X8_addBlue_0_ok (i := 6) rfl rfl ?_
      obtain ⟨k7, h⟩ := gK_e h
      obtain ⟨r8, er8, h⟩ := cp_e h
      refine g_callV0 C tb_X8_addBlue_0_ok (i := 7) [.int a1] rfl mw_X8_isPegged mv_X8_isPegged ml_X8_70 k7 rfl rfl rfl rfl (w_X8_isPegged C.G y a0 a1 M) (pm_s er8) rfl rfl rfl ?_
      obtain ⟨t9, f10⟩ := br_e h
      refine g_if_ne C tb_X8_addBlue_0_ok (i := 8) 37 rfl rfl (fun c => ?_) (fun c => ?_)
      · have h := f10 c
        exact g_less (L' := [none, none, none]) trivial (J37 M h)
      · have h := t9 c
        refine g_aload_n C tb_X8_addBlue_0_ok (i := 9) rfl rfl ?_
        obtain ⟨n11, h⟩ := gN_e h
        refine g_getR C tb_X8_addBlue_0_ok (i := 10) rfl fl_X8_9 rfl k7 n11 ?_
        refine g_iload_n C tb_X8_addBlue_0_ok (i := 11) rfl rfl ?_
        refine g_bipushv C tb_X8_addBlue_0_ok (i := 12) 99 rfl k_bipushv_99 ?_
        refine g_aload_n C tb_X8_addBlue_0_ok (i := 13) rfl rfl ?_
        refine g_getR C tb_X8_addBlue_0_ok (i := 14) rfl fl_X8_9 rfl k7 n11 ?_
        refine g_iload_n C tb_X8_addBlue_0_ok (i := 15) rfl rfl ?_
        obtain ⟨b12, h⟩ := gA_e h
        refine g_iald C tb_X8_addBlue_0_ok (i := 16) rfl b12 ?_
        refine g_iload_n C tb_X8_addBlue_0_ok (i := 17) rfl rfl ?_
        refine g_iadd C tb_X8_addBlue_0_ok (i := 18) rfl ?_
        refine g_min C tb_X8_addBlue_0_ok (i := 19) rfl mt_X8_64 rfl rfl rfl ?_
        obtain ⟨b13, h⟩ := gA_e h
        refine g_iast C tb_X8_addBlue_0_ok (i := 20) rfl b13 ?_
        refine g_mem (fun M14 eM14 => ?_)
        have h := lt_e eM14 h
        exact g_less (L' := [none, none, none]) trivial (J37 M14 h)
def f_X1_isOld (y : Lay) (a0 : Nat) (a1 : Int32) (M : Mem) : Option Int32 := gK y a0 (0, 1) (jn (fun (v2 : Int32) => gd (v2 = 0 ∨ v2 = 1) (some v2)) fun j3 => br ((((M.1 a0 5) >>> (a1 &&& 31)) &&& (1 : Int32)) = 0) (j3 (0 : Int32)) (j3 (1 : Int32)))
theorem w_X1_isOld {g : GX} {l : Launch} (hG : GF g l) (y : Lay) (a0 : Nat) (a1 : Int32) (M : Mem) : C0 g l yX1_isOld cX1_isOld 2 (some .boolean) 0 y [.ref a0, .int a1] M (pm M (f_X1_isOld y a0 a1 M)) := by
  refine CP_of hG (by decide) [some (.ref a0), some (.int a1)] rfl rfl (fun out h x Q C R => ?_)
  unfold f_X1_isOld at h
  refine g_aload_n C tb_X1_isOld_0_ok (i := 0) rfl rfl ?_
  obtain ⟨k1, h⟩ := gK_e h
  refine g_getI C tb_X1_isOld_0_ok (i := 1) rfl fl_X1_42 rfl k1 ?_
  refine g_iload_n C tb_X1_isOld_0_ok (i := 2) rfl rfl ?_
  refine g_ishr C tb_X1_isOld_0_ok (i := 3) rfl ?_
  refine g_iconstv C tb_X1_isOld_0_ok (i := 4) 1 rfl k_iconstv_1 ?_
  refine g_iand C tb_X1_isOld_0_ok (i := 5) rfl ?_
  obtain ⟨j3, ej3, h⟩ := jn_e h
  have J16 : ∀ (v2 : Int32), j3 v2 = some out → GG g x 2 Q 0 0 y M 16 [none, none] [.int v2] := by
    intro v2 h; subst ej3
    obtain ⟨hz, h⟩ := gd_e h
    cases h
    exact g_zret0 C R hz tb_X1_isOld_0_ok (i := 10) rfl
  obtain ⟨t4, f5⟩ := br_e h
  refine g_if_eq C tb_X1_isOld_0_ok (i := 6) 15 rfl rfl (fun c => ?_) (fun c => ?_)
  · have h := t4 c
    refine g_iconstv C tb_X1_isOld_0_ok (i := 9) 0 rfl k_iconstv_0 ?_
    exact g_less (L' := [none, none]) trivial (J16 (0 : Int32) h)
  · have h := f5 c
    refine g_iconstv C tb_X1_isOld_0_ok (i := 7) 1 rfl k_iconstv_1 ?_
    refine g_goto C tb_X1_isOld_0_ok (i := 8) 16 rfl rfl ?_
    exact g_less (L' := [none, none]) trivial (J16 (1 : Int32) h)
def f_X8_drip (y : Lay) (a0 : Nat) (a1 : Int32) (a2 : Int32) (M : Mem) : Option (Int32 × Mem) := fixN (fun _ _ _ => none) (fun (s4 : Int32 → Int32 → Mem → Option (Int32 × Mem)) (v1 : Int32) (v2 : Int32) (M3 : Mem) => gK y a0 (0, 8) (gN (y.2.1 a0 0) (gK y (y.2.1 a0 0) (0, 1) (cp (f_X1_cells y (y.2.1 a0 0) M3) fun (r9 : Int32) => br (r9 ≤ v2) (some (0, M3)) (jn (fun (v12 : Int32) (M13 : Mem) => lt (v2 + (1 : Int32)) fun (v15 : Int32) => s4 v12 v15 M13) fun j14 => br (v2 ≤ a1) (j14 v1 M3) (cp (f_X1_columnOf y (y.2.1 a0 0) v2 M3) fun (r18 : Int32) => cp (f_X1_columnOf y (y.2.1 a0 0) a1 M3) fun (r19 : Int32) => br (r18 = r19) (c0 (f_X8_addBlue y a0 v2 v1 M3) fun (r22 : Int32) (M23 : Mem) => gd (¬ (2 : Int32) = 0) (lt (v1 / (2 : Int32)) fun (v25 : Int32) => j14 v25 M23)) (j14 v1 M3))))))) FUEL a2 (0 : Int32) M
theorem w_X8_drip {g : GX} {l : Launch} (hG : GF g l) (y : Lay) (a0 : Nat) (a1 : Int32) (a2 : Int32) (M : Mem) : C0 g l yX8_drip cX8_drip 5 none 2 y [.ref a0, .int a1, .int a2] M (f_X8_drip y a0 a1 a2 M) := by
  refine C0_of hG (by decide) [some (.ref a0), some (.int a1), some (.int a2), none, none] rfl rfl (fun out h x Q C R => ?_)
  unfold f_X8_drip at h
  refine g_iload_n C tb_X8_drip_0_ok (i := 0) rfl rfl ?_
  refine g_istore_n C tb_X8_drip_0_ok (i := 1) rfl rfl rfl ?_
  refine g_iconstv C tb_X8_drip_0_ok (i := 2) 0 rfl k_iconstv_0 ?_
  refine g_istore C tb_X8_drip_0_ok (i := 3) rfl rfl rfl ?_
  refine g_less (L' := [some (.ref a0), some (.int a1), none, some (.int a2), some (.int (0 : Int32))]) ⟨rfl, ⟨rfl, ⟨rfl, ⟨rfl, trivial⟩⟩⟩⟩ ?_
  refine fix_i (P := fun (f : Int32 → Int32 → Mem → Option (Int32 × Mem)) => ∀ (v1 : Int32) (v2 : Int32) (M3 : Mem), f v1 v2 M3 = some out → GG g x 5 Q 0 0 y M3 5 [some (.ref a0), some (.int a1), none, some (.int v1), some (.int v2)] []) ?_ ?_ _ a2 (0 : Int32) M h
  · intro v1 v2 M3 h; exact (nn_e h).elim
  · intro s4 ih5 v1 v2 M3 h
    refine g_iload C tb_X8_drip_0_ok (i := 4) rfl rfl ?_
    refine g_aload_n C tb_X8_drip_0_ok (i := 5) rfl rfl ?_
    obtain ⟨k6, h⟩ := gK_e h
    obtain ⟨n7, h⟩ := gN_e h
    refine g_getR C tb_X8_drip_0_ok (i := 6) rfl fl_X8_32 rfl k6 n7 ?_
    obtain ⟨k8, h⟩ := gK_e h
    obtain ⟨r9, er9, h⟩ := cp_e h
    refine g_callV0 C tb_X8_drip_0_ok (i := 7) [] rfl mw_X1_cells mv_X1_cells ml_X8_147 k8 rfl rfl rfl rfl (w_X1_cells C.G y (y.2.1 a0 0) M3) (pm_s er9) rfl rfl rfl ?_
    obtain ⟨t10, f11⟩ := br_e h
    refine g_icmp_ge C tb_X8_drip_0_ok (i := 8) 60 rfl rfl (fun c => ?_) (fun c => ?_)
    · have h := t10 c
      cases h
      exact g_vret0 C R tb_X8_drip_0_ok (i := 31) rfl
    · have h := f11 c
      refine g_iload C tb_X8_drip_0_ok (i := 9) rfl rfl ?_
      refine g_iload_n C tb_X8_drip_0_ok (i := 10) rfl rfl ?_
      obtain ⟨j14, ej14, h⟩ := jn_e h
      have J54 : ∀ (v12 : Int32) (M13 : Mem), j14 v12 M13 = some out → GG g x 5 Q 0 0 y M13 54 [some (.ref a0), some (.int a1), none, some (.int v12), some (.int v2)] [] := by
        intro v12 M13 h; subst ej14
        obtain ⟨v15, ev15⟩ : ∃ w : Int32, w = v2 + (1 : Int32) := ⟨_, rfl⟩
        have h := lt_e ev15 h
        refine g_iincv C tb_X8_drip_0_ok (i := 29) (1 : Int32) ev15 rfl rfl k_iconstv_1 rfl rfl ?_
        refine g_goto C tb_X8_drip_0_ok (i := 30) 5 rfl rfl ?_
        exact g_less (L' := [some (.ref a0), some (.int a1), none, some (.int v12), some (.int v15)]) ⟨rfl, ⟨rfl, ⟨rfl, ⟨rfl, trivial⟩⟩⟩⟩ (ih5 v12 v15 M13 h)
      obtain ⟨t16, f17⟩ := br_e h
      refine g_icmp_le C tb_X8_drip_0_ok (i := 11) 54 rfl rfl (fun c => ?_) (fun c => ?_)
      · have h := t16 c
        exact g_less (L' := [some (.ref a0), some (.int a1), none, some (.int v1), some (.int v2)]) ⟨rfl, ⟨rfl, ⟨rfl, ⟨rfl, trivial⟩⟩⟩⟩ (J54 v1 M3 h)
      · have h := f17 c
        refine g_aload_n C tb_X8_drip_0_ok (i := 12) rfl rfl ?_
        refine g_getR C tb_X8_drip_0_ok (i := 13) rfl fl_X8_32 rfl k6 n7 ?_
        refine g_iload C tb_X8_drip_0_ok (i := 14) rfl rfl ?_
        obtain ⟨r18, er18, h⟩ := cp_e h
        refine g_callV0 C tb_X8_drip_0_ok (i := 15) [.int v2] rfl mw_X1_columnOf mv_X1_columnOf ml_X8_151 k8 rfl rfl rfl rfl (w_X1_columnOf C.G y (y.2.1 a0 0) v2 M3) (pm_s er18) rfl rfl rfl ?_
        refine g_aload_n C tb_X8_drip_0_ok (i := 16) rfl rfl ?_
        refine g_getR C tb_X8_drip_0_ok (i := 17) rfl fl_X8_32 rfl k6 n7 ?_
        refine g_iload_n C tb_X8_drip_0_ok (i := 18) rfl rfl ?_
        obtain ⟨r19, er19, h⟩ := cp_e h
        refine g_callV0 C tb_X8_drip_0_ok (i := 19) [.int a1] rfl mw_X1_columnOf mv_X1_columnOf ml_X8_151 k8 rfl rfl rfl rfl (w_X1_columnOf C.G y (y.2.1 a0 0) a1 M3) (pm_s er19) rfl rfl rfl ?_
        obtain ⟨t20, f21⟩ := br_e h
        refine g_icmp_ne C tb_X8_drip_0_ok (i := 20) 54 rfl rfl (fun c => ?_) (fun c => ?_)
        · have h := f21 c
          exact g_less (L' := [some (.ref a0), some (.int a1), none, some (.int v1), some (.int v2)]) ⟨rfl, ⟨rfl, ⟨rfl, ⟨rfl, trivial⟩⟩⟩⟩ (J54 v1 M3 h)
        · have h := t20 c
          refine g_aload_n C tb_X8_drip_0_ok (i := 21) rfl rfl ?_
          refine g_iload C tb_X8_drip_0_ok (i := 22) rfl rfl ?_
          refine g_iload_n C tb_X8_drip_0_ok (i := 23) rfl rfl ?_
          obtain ⟨r22, M23, er22, h⟩ := c0_e h
          refine g_callV0 C tb_X8_drip_0_ok (i := 24) [.int v2, .int v1] rfl mw_X8_addBlue mv_X8_addBlue ml_X8_135 k6 rfl rfl rfl rfl (w_X8_addBlue C.G y a0 v2 v1 M3) er22 rfl rfl rfl ?_
          refine g_iload_n C tb_X8_drip_0_ok (i := 25) rfl rfl ?_
          refine g_iconstv C tb_X8_drip_0_ok (i := 26) 2 rfl k_iconstv_2 ?_
          obtain ⟨n24, h⟩ := gd_e h
          refine g_idiv C tb_X8_drip_0_ok (i := 27) rfl n24 ?_
          refine g_topi (fun v25 ev25 => ?_)
          have h := lt_e ev25 h
          refine g_istore_n C tb_X8_drip_0_ok (i := 28) rfl rfl rfl ?_
          exact g_less (L' := [some (.ref a0), some (.int a1), none, some (.int v25), some (.int v2)]) ⟨rfl, ⟨rfl, ⟨rfl, ⟨rfl, trivial⟩⟩⟩⟩ (J54 v25 M23 h)
def f_X8_swish (y : Lay) (a0 : Nat) (a1 : Int32) (a2 : Int32) (M : Mem) : Option (Int32 × Mem) := gK y a0 (0, 8) (c0 (f_X8_dyeOf y a0 a1 a2 M) fun (r2 : Int32) (M3 : Mem) => cp (f_X8_spotOf y a0 a1 M3) fun (r4 : Int32) => c0 (f_X8_addBlue y a0 r4 r2 M3) fun (r5 : Int32) (M6 : Mem) => gN (y.2.1 a0 0) (gK y (y.2.1 a0 0) (0, 1) (cp (f_X1_isOld y (y.2.1 a0 0) a1 M6) fun (r9 : Int32) => jn (fun (M10 : Mem) => some (0, M10)) fun j11 => br (r9 = 0) (cp (f_X1_besideBits y (y.2.1 a0 0) r4 M6) fun (r14 : Int32) => fixN (fun _ _ => none) (fun (s17 : Int32 → Mem → Option (Int32 × Mem)) (v15 : Int32) (M16 : Mem) => cp (f_X1_cells y (y.2.1 a0 0) M16) fun (r19 : Int32) => br (r19 ≤ v15) (j11 M16) (jn (fun (M22 : Mem) => lt (v15 + (1 : Int32)) fun (v24 : Int32) => s17 v24 M22) fun j23 => br (((r14 >>> (v15 &&& 31)) &&& (1 : Int32)) = 0) (j23 M16) (gd (¬ (2 : Int32) = 0) (c0 (f_X8_addBlue y a0 v15 (r2 / (2 : Int32)) M16) fun (r28 : Int32) (M29 : Mem) => j23 M29)))) FUEL (0 : Int32) M6) (gd (¬ (2 : Int32) = 0) (c0 (f_X8_drip y a0 r4 (r2 / (2 : Int32)) M6) fun (r31 : Int32) (M32 : Mem) => j11 M32)))))
theorem w_X8_swish {g : GX} {l : Launch} (hG : GF g l) (y : Lay) (a0 : Nat) (a1 : Int32) (a2 : Int32) (M : Mem) : C0 g l yX8_swish cX8_swish 7 none 3 y [.ref a0, .int a1, .int a2] M (f_X8_swish y a0 a1 a2 M) := by
  refine C0_of hG (by decide) [some (.ref a0), some (.int a1), some (.int a2), none, none, none, none] rfl rfl (fun out h x Q C R => ?_)
  unfold f_X8_swish at h
  refine g_aload_n C tb_X8_swish_0_ok (i := 0) rfl rfl ?_
  refine g_iload_n C tb_X8_swish_0_ok (i := 1) rfl rfl ?_
  refine g_iload_n C tb_X8_swish_0_ok (i := 2) rfl rfl ?_
  obtain ⟨k1, h⟩ := gK_e h
  obtain ⟨r2, M3, er2, h⟩ := c0_e h
  refine g_callV0 C tb_X8_swish_0_ok (i := 3) [.int a1, .int a2] rfl mw_X8_dyeOf mv_X8_dyeOf ml_X8_129 k1 rfl rfl rfl rfl (w_X8_dyeOf C.G y a0 a1 a2 M) er2 rfl rfl rfl ?_
  refine g_istore_n C tb_X8_swish_0_ok (i := 4) rfl rfl rfl ?_
  refine g_aload_n C tb_X8_swish_0_ok (i := 5) rfl rfl ?_
  refine g_iload_n C tb_X8_swish_0_ok (i := 6) rfl rfl ?_
  obtain ⟨r4, er4, h⟩ := cp_e h
  refine g_callV0 C tb_X8_swish_0_ok (i := 7) [.int a1] rfl mw_X8_spotOf mv_X8_spotOf ml_X8_132 k1 rfl rfl rfl rfl (w_X8_spotOf C.G y a0 a1 M3) (pm_s er4) rfl rfl rfl ?_
  refine g_istore C tb_X8_swish_0_ok (i := 8) rfl rfl rfl ?_
  refine g_aload_n C tb_X8_swish_0_ok (i := 9) rfl rfl ?_
  refine g_iload C tb_X8_swish_0_ok (i := 10) rfl rfl ?_
  refine g_iload_n C tb_X8_swish_0_ok (i := 11) rfl rfl ?_
  obtain ⟨r5, M6, er5, h⟩ := c0_e h
  refine g_callV0 C tb_X8_swish_0_ok (i := 12) [.int r4, .int r2] rfl mw_X8_addBlue mv_X8_addBlue ml_X8_135 k1 rfl rfl rfl rfl (w_X8_addBlue C.G y a0 r4 r2 M3) er5 rfl rfl rfl ?_
  refine g_aload_n C tb_X8_swish_0_ok (i := 13) rfl rfl ?_
  obtain ⟨n7, h⟩ := gN_e h
  refine g_getR C tb_X8_swish_0_ok (i := 14) rfl fl_X8_32 rfl k1 n7 ?_
  refine g_iload_n C tb_X8_swish_0_ok (i := 15) rfl rfl ?_
  obtain ⟨k8, h⟩ := gK_e h
  obtain ⟨r9, er9, h⟩ := cp_e h
  refine g_callV0 C tb_X8_swish_0_ok (i := 16) [.int a1] rfl mw_X1_isOld mv_X1_isOld ml_X8_138 k8 rfl rfl rfl rfl (w_X1_isOld C.G y (y.2.1 a0 0) a1 M6) (pm_s er9) rfl rfl rfl ?_
  obtain ⟨j11, ej11, h⟩ := jn_e h
  have J95 : ∀ (M10 : Mem), j11 M10 = some out → GG g x 7 Q 0 0 y M10 95 [none, none, none, none, none, none, none] [] := by
    intro M10 h; subst ej11
    cases h
    exact g_vret0 C R tb_X8_swish_1_ok (i := 11) rfl
  obtain ⟨t12, f13⟩ := br_e h
  refine g_if_eq C tb_X8_swish_0_ok (i := 17) 44 rfl rfl (fun c => ?_) (fun c => ?_)
  · have h := t12 c
    refine g_aload_n C tb_X8_swish_0_ok (i := 25) rfl rfl ?_
    refine g_getR C tb_X8_swish_0_ok (i := 26) rfl fl_X8_32 rfl k1 n7 ?_
    refine g_iload C tb_X8_swish_0_ok (i := 27) rfl rfl ?_
    obtain ⟨r14, er14, h⟩ := cp_e h
    refine g_callV0 C tb_X8_swish_0_ok (i := 28) [.int r4] rfl mw_X1_besideBits mv_X1_besideBits ml_X8_144 k8 rfl rfl rfl rfl (w_X1_besideBits C.G y (y.2.1 a0 0) r4 M6) (pm_s er14) rfl rfl rfl ?_
    refine g_istore C tb_X8_swish_0_ok (i := 29) rfl rfl rfl ?_
    refine g_iconstv C tb_X8_swish_0_ok (i := 30) 0 rfl k_iconstv_0 ?_
    refine g_istore C tb_X8_swish_0_ok (i := 31) rfl rfl rfl ?_
    refine g_less (L' := [some (.ref a0), none, none, some (.int r2), none, some (.int r14), some (.int (0 : Int32))]) ⟨rfl, ⟨rfl, ⟨rfl, ⟨rfl, trivial⟩⟩⟩⟩ ?_
    refine fix_i (P := fun (f : Int32 → Mem → Option (Int32 × Mem)) => ∀ (v15 : Int32) (M16 : Mem), f v15 M16 = some out → GG g x 7 Q 0 0 y M16 58 [some (.ref a0), none, none, some (.int r2), none, some (.int r14), some (.int v15)] []) ?_ ?_ _ (0 : Int32) M6 h
    · intro v15 M16 h; exact (nn_e h).elim
    · intro s17 ih18 v15 M16 h
      refine g_iload C tb_X8_swish_0_ok (i := 32) rfl rfl ?_
      refine g_aload_n C tb_X8_swish_0_ok (i := 33) rfl rfl ?_
      refine g_getR C tb_X8_swish_0_ok (i := 34) rfl fl_X8_32 rfl k1 n7 ?_
      obtain ⟨r19, er19, h⟩ := cp_e h
      refine g_callV0 C tb_X8_swish_0_ok (i := 35) [] rfl mw_X1_cells mv_X1_cells ml_X8_147 k8 rfl rfl rfl rfl (w_X1_cells C.G y (y.2.1 a0 0) M16) (pm_s er19) rfl rfl rfl ?_
      obtain ⟨t20, f21⟩ := br_e h
      refine g_icmp_ge C tb_X8_swish_0_ok (i := 36) 95 rfl rfl (fun c => ?_) (fun c => ?_)
      · have h := t20 c
        exact g_less (L' := [none, none, none, none, none, none, none]) trivial (J95 M16 h)
      · have h := f21 c
        refine g_iload C tb_X8_swish_0_ok (i := 37) rfl rfl ?_
        refine g_iload C tb_X8_swish_0_ok (i := 38) rfl rfl ?_
        refine g_ishr C tb_X8_swish_0_ok (i := 39) rfl ?_
        refine g_iconstv C tb_X8_swish_1_ok (i := 0) 1 rfl k_iconstv_1 ?_
        refine g_iand C tb_X8_swish_1_ok (i := 1) rfl ?_
        obtain ⟨j23, ej23, h⟩ := jn_e h
        have J89 : ∀ (M22 : Mem), j23 M22 = some out → GG g x 7 Q 0 0 y M22 89 [some (.ref a0), none, none, some (.int r2), none, some (.int r14), some (.int v15)] [] := by
          intro M22 h; subst ej23
          obtain ⟨v24, ev24⟩ : ∃ w : Int32, w = v15 + (1 : Int32) := ⟨_, rfl⟩
          have h := lt_e ev24 h
          refine g_iincv C tb_X8_swish_1_ok (i := 9) (1 : Int32) ev24 rfl rfl k_iconstv_1 rfl rfl ?_
          refine g_goto C tb_X8_swish_1_ok (i := 10) 58 rfl rfl ?_
          exact g_less (L' := [some (.ref a0), none, none, some (.int r2), none, some (.int r14), some (.int v24)]) ⟨rfl, ⟨rfl, ⟨rfl, ⟨rfl, trivial⟩⟩⟩⟩ (ih18 v24 M22 h)
        obtain ⟨t25, f26⟩ := br_e h
        refine g_if_eq C tb_X8_swish_1_ok (i := 2) 89 rfl rfl (fun c => ?_) (fun c => ?_)
        · have h := t25 c
          exact g_less (L' := [some (.ref a0), none, none, some (.int r2), none, some (.int r14), some (.int v15)]) ⟨rfl, ⟨rfl, ⟨rfl, ⟨rfl, trivial⟩⟩⟩⟩ (J89 M16 h)
        · have h := f26 c
          refine g_aload_n C tb_X8_swish_1_ok (i := 3) rfl rfl ?_
          refine g_iload C tb_X8_swish_1_ok (i := 4) rfl rfl ?_
          refine g_iload_n C tb_X8_swish_1_ok (i := 5) rfl rfl ?_
          refine g_iconstv C tb_X8_swish_1_ok (i := 6) 2 rfl k_iconstv_2 ?_
          obtain ⟨n27, h⟩ := gd_e h
          refine g_idiv C tb_X8_swish_1_ok (i := 7) rfl n27 ?_
          obtain ⟨r28, M29, er28, h⟩ := c0_e h
          refine g_callV0 C tb_X8_swish_1_ok (i := 8) [.int v15, .int (r2 / (2 : Int32))] rfl mw_X8_addBlue mv_X8_addBlue ml_X8_135 k1 rfl rfl rfl rfl (w_X8_addBlue C.G y a0 v15 (r2 / (2 : Int32)) M16) er28 rfl rfl rfl ?_
          exact g_less (L' := [some (.ref a0), none, none, some (.int r2), none, some (.int r14), some (.int v15)]) ⟨rfl, ⟨rfl, ⟨rfl, ⟨rfl, trivial⟩⟩⟩⟩ (J89 M29 h)
  · have h := f13 c
    refine g_aload_n C tb_X8_swish_0_ok (i := 18) rfl rfl ?_
    refine g_iload C tb_X8_swish_0_ok (i := 19) rfl rfl ?_
    refine g_iload_n C tb_X8_swish_0_ok (i := 20) rfl rfl ?_
    refine g_iconstv C tb_X8_swish_0_ok (i := 21) 2 rfl k_iconstv_2 ?_
    obtain ⟨n30, h⟩ := gd_e h
    refine g_idiv C tb_X8_swish_0_ok (i := 22) rfl n30 ?_
    obtain ⟨r31, M32, er31, h⟩ := c0_e h
    refine g_callV0 C tb_X8_swish_0_ok (i := 23) [.int r4, .int (r2 / (2 : Int32))] rfl mw_X8_drip mv_X8_drip ml_X8_141 k1 rfl rfl rfl rfl (w_X8_drip C.G y a0 r4 (r2 / (2 : Int32)) M6) er31 rfl rfl rfl ?_
    refine g_goto C tb_X8_swish_0_ok (i := 24) 95 rfl rfl ?_
    exact g_less (L' := [none, none, none, none, none, none, none]) trivial (J95 M32 h)
def f_J6_bitCount_0f7a4 (y : Lay) (a0 : Int32) (M : Mem) : Option Int32 := lt (a0 - (((a0.toUInt32 >>> ((1 : Int32).toUInt32 &&& Int32.toUInt32 31)).toInt32) &&& (1431655765 : Int32))) fun (v1 : Int32) => lt ((v1 &&& (858993459 : Int32)) + (((v1.toUInt32 >>> ((2 : Int32).toUInt32 &&& Int32.toUInt32 31)).toInt32) &&& (858993459 : Int32))) fun (v2 : Int32) => lt ((v2 + ((v2.toUInt32 >>> ((4 : Int32).toUInt32 &&& Int32.toUInt32 31)).toInt32)) &&& (252645135 : Int32)) fun (v3 : Int32) => lt (v3 + ((v3.toUInt32 >>> ((8 : Int32).toUInt32 &&& Int32.toUInt32 31)).toInt32)) fun (v4 : Int32) => lt (v4 + ((v4.toUInt32 >>> ((16 : Int32).toUInt32 &&& Int32.toUInt32 31)).toInt32)) fun (v5 : Int32) => some (v5 &&& (63 : Int32))
theorem w_J6_bitCount_0f7a4 {g : GX} {l : Launch} (hG : GF g l) (y : Lay) (a0 : Int32) (M : Mem) : C0 g l yJ6_bitCount_0f7a4 cJ6_bitCount_0f7a4 1 (some .int) 0 y [.int a0] M (pm M (f_J6_bitCount_0f7a4 y a0 M)) := by
  refine CP_of hG (by decide) [some (.int a0)] rfl rfl (fun out h x Q C R => ?_)
  unfold f_J6_bitCount_0f7a4 at h
  refine g_iload_n C tb_J6_bitCount_0f7a4_0_ok (i := 0) rfl rfl ?_
  refine g_iload_n C tb_J6_bitCount_0f7a4_0_ok (i := 1) rfl rfl ?_
  refine g_iconstv C tb_J6_bitCount_0f7a4_0_ok (i := 2) 1 rfl k_iconstv_1 ?_
  refine g_iushr C tb_J6_bitCount_0f7a4_0_ok (i := 3) rfl ?_
  refine g_ldcIw C tb_J6_bitCount_0f7a4_0_ok (i := 4) rfl cl_J6_265 ?_
  refine g_iand C tb_J6_bitCount_0f7a4_0_ok (i := 5) rfl ?_
  refine g_isub C tb_J6_bitCount_0f7a4_0_ok (i := 6) rfl ?_
  refine g_topi (fun v1 ev1 => ?_)
  have h := lt_e ev1 h
  refine g_istore_n C tb_J6_bitCount_0f7a4_0_ok (i := 7) rfl rfl rfl ?_
  refine g_iload_n C tb_J6_bitCount_0f7a4_0_ok (i := 8) rfl rfl ?_
  refine g_ldcIw C tb_J6_bitCount_0f7a4_0_ok (i := 9) rfl cl_J6_266 ?_
  refine g_iand C tb_J6_bitCount_0f7a4_0_ok (i := 10) rfl ?_
  refine g_iload_n C tb_J6_bitCount_0f7a4_0_ok (i := 11) rfl rfl ?_
  refine g_iconstv C tb_J6_bitCount_0f7a4_0_ok (i := 12) 2 rfl k_iconstv_2 ?_
  refine g_iushr C tb_J6_bitCount_0f7a4_0_ok (i := 13) rfl ?_
  refine g_ldcIw C tb_J6_bitCount_0f7a4_0_ok (i := 14) rfl cl_J6_266 ?_
  refine g_iand C tb_J6_bitCount_0f7a4_0_ok (i := 15) rfl ?_
  refine g_iadd C tb_J6_bitCount_0f7a4_0_ok (i := 16) rfl ?_
  refine g_topi (fun v2 ev2 => ?_)
  have h := lt_e ev2 h
  refine g_istore_n C tb_J6_bitCount_0f7a4_0_ok (i := 17) rfl rfl rfl ?_
  refine g_iload_n C tb_J6_bitCount_0f7a4_0_ok (i := 18) rfl rfl ?_
  refine g_iload_n C tb_J6_bitCount_0f7a4_0_ok (i := 19) rfl rfl ?_
  refine g_iconstv C tb_J6_bitCount_0f7a4_0_ok (i := 20) 4 rfl k_iconstv_4 ?_
  refine g_iushr C tb_J6_bitCount_0f7a4_0_ok (i := 21) rfl ?_
  refine g_iadd C tb_J6_bitCount_0f7a4_0_ok (i := 22) rfl ?_
  refine g_ldcIw C tb_J6_bitCount_0f7a4_0_ok (i := 23) rfl cl_J6_267 ?_
  refine g_iand C tb_J6_bitCount_0f7a4_0_ok (i := 24) rfl ?_
  refine g_topi (fun v3 ev3 => ?_)
  have h := lt_e ev3 h
  refine g_istore_n C tb_J6_bitCount_0f7a4_0_ok (i := 25) rfl rfl rfl ?_
  refine g_iload_n C tb_J6_bitCount_0f7a4_0_ok (i := 26) rfl rfl ?_
  refine g_iload_n C tb_J6_bitCount_0f7a4_0_ok (i := 27) rfl rfl ?_
  refine g_bipushv C tb_J6_bitCount_0f7a4_0_ok (i := 28) 8 rfl k_bipushv_8 ?_
  refine g_iushr C tb_J6_bitCount_0f7a4_0_ok (i := 29) rfl ?_
  refine g_iadd C tb_J6_bitCount_0f7a4_0_ok (i := 30) rfl ?_
  refine g_topi (fun v4 ev4 => ?_)
  have h := lt_e ev4 h
  refine g_istore_n C tb_J6_bitCount_0f7a4_0_ok (i := 31) rfl rfl rfl ?_
  refine g_iload_n C tb_J6_bitCount_0f7a4_0_ok (i := 32) rfl rfl ?_
  refine g_iload_n C tb_J6_bitCount_0f7a4_0_ok (i := 33) rfl rfl ?_
  refine g_bipushv C tb_J6_bitCount_0f7a4_0_ok (i := 34) 16 rfl k_bipushv_16 ?_
  refine g_iushr C tb_J6_bitCount_0f7a4_0_ok (i := 35) rfl ?_
  refine g_iadd C tb_J6_bitCount_0f7a4_0_ok (i := 36) rfl ?_
  refine g_topi (fun v5 ev5 => ?_)
  have h := lt_e ev5 h
  refine g_istore_n C tb_J6_bitCount_0f7a4_0_ok (i := 37) rfl rfl rfl ?_
  refine g_iload_n C tb_J6_bitCount_0f7a4_0_ok (i := 38) rfl rfl ?_
  refine g_bipushv C tb_J6_bitCount_0f7a4_0_ok (i := 39) 63 rfl k_bipushv_63 ?_
  refine g_iand C tb_J6_bitCount_0f7a4_1_ok (i := 0) rfl ?_
  cases h
  exact g_iret0 C R tb_J6_bitCount_0f7a4_1_ok (i := 1) rfl
def f_X8_markOverdone (y : Lay) (a0 : Nat) (M : Mem) : Option (Int32 × Mem) := gK y a0 (0, 8) (lt (wI M a0 12 (0 : Int32)) fun (M2 : Mem) => fixN (fun _ _ => none) (fun (s5 : Int32 → Mem → Option (Int32 × Mem)) (v3 : Int32) (M4 : Mem) => br ((30 : Int32) ≤ v3) (cp (f_J6_bitCount_0f7a4 y (M4.1 a0 12) M4) fun (r9 : Int32) => lt (wI M4 a0 10 (jmin (9999 : Int32) ((M4.1 a0 10) + r9))) fun (M10 : Mem) => some (0, M10)) (gN (y.2.1 a0 1) (gA y (y.2.1 a0 1) 1 v3 (gN (y.2.1 a0 0) (gK y (y.2.1 a0 0) (0, 1) (jn (fun (M15 : Mem) => lt (v3 + (1 : Int32)) fun (v17 : Int32) => s5 v17 M15) fun j16 => br ((M4.1 (y.2.1 a0 1) v3.toNatClampNeg) ≤ (M4.1 (y.2.1 a0 0) 3)) (j16 M4) (lt (wI M4 a0 12 ((M4.1 a0 12) ||| ((1 : Int32) <<< (v3 &&& 31)))) fun (M20 : Mem) => j16 M20))))))) FUEL (0 : Int32) M2)
theorem w_X8_markOverdone {g : GX} {l : Launch} (hG : GF g l) (y : Lay) (a0 : Nat) (M : Mem) : C0 g l yX8_markOverdone cX8_markOverdone 2 none 1 y [.ref a0] M (f_X8_markOverdone y a0 M) := by
  refine C0_of hG (by decide) [some (.ref a0), none] rfl rfl (fun out h x Q C R => ?_)
  unfold f_X8_markOverdone at h
  refine g_aload_n C tb_X8_markOverdone_0_ok (i := 0) rfl rfl ?_
  refine g_iconstv C tb_X8_markOverdone_0_ok (i := 1) 0 rfl k_iconstv_0 ?_
  obtain ⟨k1, h⟩ := gK_e h
  refine g_putI C tb_X8_markOverdone_0_ok (i := 2) rfl fl_X8_55 ft_8_12 rfl k1 ?_
  refine g_mem (fun M2 eM2 => ?_)
  have h := lt_e eM2 h
  refine g_iconstv C tb_X8_markOverdone_0_ok (i := 3) 0 rfl k_iconstv_0 ?_
  refine g_istore_n C tb_X8_markOverdone_0_ok (i := 4) rfl rfl rfl ?_
  refine g_less (L' := [some (.ref a0), some (.int (0 : Int32))]) ⟨rfl, ⟨rfl, trivial⟩⟩ ?_
  refine fix_i (P := fun (f : Int32 → Mem → Option (Int32 × Mem)) => ∀ (v3 : Int32) (M4 : Mem), f v3 M4 = some out → GG g x 2 Q 0 0 y M4 7 [some (.ref a0), some (.int v3)] []) ?_ ?_ _ (0 : Int32) M2 h
  · intro v3 M4 h; exact (nn_e h).elim
  · intro s5 ih6 v3 M4 h
    refine g_iload_n C tb_X8_markOverdone_0_ok (i := 5) rfl rfl ?_
    refine g_bipushv C tb_X8_markOverdone_0_ok (i := 6) 30 rfl k_bipushv_30 ?_
    obtain ⟨t7, f8⟩ := br_e h
    refine g_icmp_ge C tb_X8_markOverdone_0_ok (i := 7) 47 rfl rfl (fun c => ?_) (fun c => ?_)
    · have h := t7 c
      refine g_aload_n C tb_X8_markOverdone_0_ok (i := 26) rfl rfl ?_
      refine g_sipushv C tb_X8_markOverdone_0_ok (i := 27) 9999 rfl k_sipushv_9999 ?_
      refine g_aload_n C tb_X8_markOverdone_0_ok (i := 28) rfl rfl ?_
      refine g_getI C tb_X8_markOverdone_0_ok (i := 29) rfl fl_X8_49 rfl k1 ?_
      refine g_aload_n C tb_X8_markOverdone_0_ok (i := 30) rfl rfl ?_
      refine g_getI C tb_X8_markOverdone_0_ok (i := 31) rfl fl_X8_55 rfl k1 ?_
      obtain ⟨r9, er9, h⟩ := cp_e h
      refine g_callS0 C tb_X8_markOverdone_0_ok (i := 32) [.int (M4.1 a0 12)] rfl mw_J6_bitCount_0f7a4 mst_J6_bitCount_0f7a4 ml_X8_101 rfl rfl rfl rfl (w_J6_bitCount_0f7a4 C.G y (M4.1 a0 12) M4) (pm_s er9) rfl rfl rfl ?_
      refine g_iadd C tb_X8_markOverdone_0_ok (i := 33) rfl ?_
      refine g_min C tb_X8_markOverdone_0_ok (i := 34) rfl mt_X8_64 rfl rfl rfl ?_
      refine g_putI C tb_X8_markOverdone_0_ok (i := 35) rfl fl_X8_49 ft_8_10 rfl k1 ?_
      refine g_mem (fun M10 eM10 => ?_)
      have h := lt_e eM10 h
      cases h
      exact g_vret0 C R tb_X8_markOverdone_0_ok (i := 36) rfl
    · have h := f8 c
      refine g_aload_n C tb_X8_markOverdone_0_ok (i := 8) rfl rfl ?_
      obtain ⟨n11, h⟩ := gN_e h
      refine g_getR C tb_X8_markOverdone_0_ok (i := 9) rfl fl_X8_9 rfl k1 n11 ?_
      refine g_iload_n C tb_X8_markOverdone_0_ok (i := 10) rfl rfl ?_
      obtain ⟨b12, h⟩ := gA_e h
      refine g_iald C tb_X8_markOverdone_0_ok (i := 11) rfl b12 ?_
      refine g_aload_n C tb_X8_markOverdone_0_ok (i := 12) rfl rfl ?_
      obtain ⟨n13, h⟩ := gN_e h
      refine g_getR C tb_X8_markOverdone_0_ok (i := 13) rfl fl_X8_32 rfl k1 n13 ?_
      obtain ⟨k14, h⟩ := gK_e h
      refine g_getI C tb_X8_markOverdone_0_ok (i := 14) rfl fl_X8_98 rfl k14 ?_
      obtain ⟨j16, ej16, h⟩ := jn_e h
      have J41 : ∀ (M15 : Mem), j16 M15 = some out → GG g x 2 Q 0 0 y M15 41 [some (.ref a0), some (.int v3)] [] := by
        intro M15 h; subst ej16
        obtain ⟨v17, ev17⟩ : ∃ w : Int32, w = v3 + (1 : Int32) := ⟨_, rfl⟩
        have h := lt_e ev17 h
        refine g_iincv C tb_X8_markOverdone_0_ok (i := 24) (1 : Int32) ev17 rfl rfl k_iconstv_1 rfl rfl ?_
        refine g_goto C tb_X8_markOverdone_0_ok (i := 25) 7 rfl rfl ?_
        exact g_less (L' := [some (.ref a0), some (.int v17)]) ⟨rfl, ⟨rfl, trivial⟩⟩ (ih6 v17 M15 h)
      obtain ⟨t18, f19⟩ := br_e h
      refine g_icmp_le C tb_X8_markOverdone_0_ok (i := 15) 41 rfl rfl (fun c => ?_) (fun c => ?_)
      · have h := t18 c
        exact g_less (L' := [some (.ref a0), some (.int v3)]) ⟨rfl, ⟨rfl, trivial⟩⟩ (J41 M4 h)
      · have h := f19 c
        refine g_aload_n C tb_X8_markOverdone_0_ok (i := 16) rfl rfl ?_
        refine g_dup C tb_X8_markOverdone_0_ok (i := 17) rfl rfl ?_
        refine g_getI C tb_X8_markOverdone_0_ok (i := 18) rfl fl_X8_55 rfl k1 ?_
        refine g_iconstv C tb_X8_markOverdone_0_ok (i := 19) 1 rfl k_iconstv_1 ?_
        refine g_iload_n C tb_X8_markOverdone_0_ok (i := 20) rfl rfl ?_
        refine g_ishl C tb_X8_markOverdone_0_ok (i := 21) rfl ?_
        refine g_ior C tb_X8_markOverdone_0_ok (i := 22) rfl ?_
        refine g_putI C tb_X8_markOverdone_0_ok (i := 23) rfl fl_X8_55 ft_8_12 rfl k1 ?_
        refine g_mem (fun M20 eM20 => ?_)
        have h := lt_e eM20 h
        exact g_less (L' := [some (.ref a0), some (.int v3)]) ⟨rfl, ⟨rfl, trivial⟩⟩ (J41 M20 h)
def f_X8_fadeOf (y : Lay) (a0 : Nat) (a1 : Int32) (M : Mem) : Option (Int32 × Mem) := gK y a0 (0, 8) (gN (y.2.1 a0 0) (gK y (y.2.1 a0 0) (0, 1) (gN (y.2.1 (y.2.1 a0 0) 8) (gK y (y.2.1 (y.2.1 a0 0) 8) (0, 5) (cp (f_X5_isTold y (y.2.1 (y.2.1 a0 0) 8) M) fun (r6 : Int32) => br (r6 = 0) (cp (f_X8_blueOf y a0 a1 M) fun (r18 : Int32) => gd (¬ (5 : Int32) = 0) (some ((r18 / (5 : Int32)), M))) (cp (f_X8_blueOf y a0 a1 M) fun (r9 : Int32) => br (r9 = 0) (some ((0 : Int32), M)) (c0 (f_X8_setValues y a0 a1 M) fun (r12 : Int32) (M13 : Mem) => cp (f_X8_blueOf y a0 a1 M13) fun (r14 : Int32) => gN (y.2.1 a0 6) (c0 (f_X5_worth y (y.2.1 (y.2.1 a0 0) 8) (y.2.1 a0 6) M13) fun (r16 : Int32) (M17 : Mem) => some ((jmax (0 : Int32) (jmin r14 r16)), M17)))))))))
theorem w_X8_fadeOf {g : GX} {l : Launch} (hG : GF g l) (y : Lay) (a0 : Nat) (a1 : Int32) (M : Mem) : C0 g l yX8_fadeOf cX8_fadeOf 2 (some .int) 2 y [.ref a0, .int a1] M (f_X8_fadeOf y a0 a1 M) := by
  refine C0_of hG (by decide) [some (.ref a0), some (.int a1)] rfl rfl (fun out h x Q C R => ?_)
  unfold f_X8_fadeOf at h
  refine g_aload_n C tb_X8_fadeOf_0_ok (i := 0) rfl rfl ?_
  obtain ⟨k1, h⟩ := gK_e h
  obtain ⟨n2, h⟩ := gN_e h
  refine g_getR C tb_X8_fadeOf_0_ok (i := 1) rfl fl_X8_32 rfl k1 n2 ?_
  obtain ⟨k3, h⟩ := gK_e h
  obtain ⟨n4, h⟩ := gN_e h
  refine g_getR C tb_X8_fadeOf_0_ok (i := 2) rfl fl_X8_110 rfl k3 n4 ?_
  obtain ⟨k5, h⟩ := gK_e h
  obtain ⟨r6, er6, h⟩ := cp_e h
  refine g_callV0 C tb_X8_fadeOf_0_ok (i := 3) [] rfl mw_X5_isTold mv_X5_isTold ml_X8_114 k5 rfl rfl rfl rfl (w_X5_isTold C.G y (y.2.1 (y.2.1 a0 0) 8) M) (pm_s er6) rfl rfl rfl ?_
  obtain ⟨t7, f8⟩ := br_e h
  refine g_if_ne C tb_X8_fadeOf_0_ok (i := 4) 21 rfl rfl (fun c => ?_) (fun c => ?_)
  · have h := f8 c
    refine g_aload_n C tb_X8_fadeOf_0_ok (i := 11) rfl rfl ?_
    refine g_iload_n C tb_X8_fadeOf_0_ok (i := 12) rfl rfl ?_
    obtain ⟨r9, er9, h⟩ := cp_e h
    refine g_callV0 C tb_X8_fadeOf_0_ok (i := 13) [.int a1] rfl mw_X8_blueOf mv_X8_blueOf ml_X8_118 k1 rfl rfl rfl rfl (w_X8_blueOf C.G y a0 a1 M) (pm_s er9) rfl rfl rfl ?_
    obtain ⟨t10, f11⟩ := br_e h
    refine g_if_ne C tb_X8_fadeOf_0_ok (i := 14) 31 rfl rfl (fun c => ?_) (fun c => ?_)
    · have h := f11 c
      refine g_aload_n C tb_X8_fadeOf_0_ok (i := 17) rfl rfl ?_
      refine g_iload_n C tb_X8_fadeOf_0_ok (i := 18) rfl rfl ?_
      obtain ⟨r12, M13, er12, h⟩ := c0_e h
      refine g_callV0 C tb_X8_fadeOf_0_ok (i := 19) [.int a1] rfl mw_X8_setValues mv_X8_setValues ml_X8_121 k1 rfl rfl rfl rfl (w_X8_setValues C.G y a0 a1 M) er12 rfl rfl rfl ?_
      refine g_iconstv C tb_X8_fadeOf_0_ok (i := 20) 0 rfl k_iconstv_0 ?_
      refine g_aload_n C tb_X8_fadeOf_0_ok (i := 21) rfl rfl ?_
      refine g_iload_n C tb_X8_fadeOf_0_ok (i := 22) rfl rfl ?_
      obtain ⟨r14, er14, h⟩ := cp_e h
      refine g_callV0 C tb_X8_fadeOf_0_ok (i := 23) [.int a1] rfl mw_X8_blueOf mv_X8_blueOf ml_X8_118 k1 rfl rfl rfl rfl (w_X8_blueOf C.G y a0 a1 M13) (pm_s er14) rfl rfl rfl ?_
      refine g_aload_n C tb_X8_fadeOf_0_ok (i := 24) rfl rfl ?_
      refine g_getR C tb_X8_fadeOf_0_ok (i := 25) rfl fl_X8_32 rfl k1 n2 ?_
      refine g_getR C tb_X8_fadeOf_0_ok (i := 26) rfl fl_X8_110 rfl k3 n4 ?_
      refine g_aload_n C tb_X8_fadeOf_0_ok (i := 27) rfl rfl ?_
      obtain ⟨n15, h⟩ := gN_e h
      refine g_getR C tb_X8_fadeOf_0_ok (i := 28) rfl fl_X8_29 rfl k1 n15 ?_
      obtain ⟨r16, M17, er16, h⟩ := c0_e h
      refine g_callV0 C tb_X8_fadeOf_0_ok (i := 29) [.ref (y.2.1 a0 6)] rfl mw_X5_worth mv_X5_worth ml_X8_125 k5 rfl rfl rfl rfl (w_X5_worth C.G y (y.2.1 (y.2.1 a0 0) 8) (y.2.1 a0 6) M13) er16 rfl rfl rfl ?_
      refine g_min C tb_X8_fadeOf_0_ok (i := 30) rfl mt_X8_64 rfl rfl rfl ?_
      refine g_max C tb_X8_fadeOf_0_ok (i := 31) rfl mt_X8_92 rfl rfl rfl ?_
      cases h
      exact g_iret0 C R tb_X8_fadeOf_0_ok (i := 32) rfl
    · have h := t10 c
      refine g_iconstv C tb_X8_fadeOf_0_ok (i := 15) 0 rfl k_iconstv_0 ?_
      cases h
      exact g_iret0 C R tb_X8_fadeOf_0_ok (i := 16) rfl
  · have h := t7 c
    refine g_aload_n C tb_X8_fadeOf_0_ok (i := 5) rfl rfl ?_
    refine g_iload_n C tb_X8_fadeOf_0_ok (i := 6) rfl rfl ?_
    obtain ⟨r18, er18, h⟩ := cp_e h
    refine g_callV0 C tb_X8_fadeOf_0_ok (i := 7) [.int a1] rfl mw_X8_blueOf mv_X8_blueOf ml_X8_118 k1 rfl rfl rfl rfl (w_X8_blueOf C.G y a0 a1 M) (pm_s er18) rfl rfl rfl ?_
    refine g_iconstv C tb_X8_fadeOf_0_ok (i := 8) 5 rfl k_iconstv_5 ?_
    obtain ⟨n19, h⟩ := gd_e h
    refine g_idiv C tb_X8_fadeOf_0_ok (i := 9) rfl n19 ?_
    cases h
    exact g_iret0 C R tb_X8_fadeOf_0_ok (i := 10) rfl
def f_X8_fade (y : Lay) (a0 : Nat) (M : Mem) : Option (Int32 × Mem) := fixN (fun _ _ => none) (fun (s3 : Int32 → Mem → Option (Int32 × Mem)) (v1 : Int32) (M2 : Mem) => br ((30 : Int32) ≤ v1) (fixN (fun _ _ => none) (fun (s9 : Int32 → Mem → Option (Int32 × Mem)) (v7 : Int32) (M8 : Mem) => br ((30 : Int32) ≤ v7) (some (0, M8)) (gK y a0 (0, 8) (gN (y.2.1 a0 1) (gA y (y.2.1 a0 1) 1 v7 (gN (y.2.1 a0 3) (gA y (y.2.1 a0 3) 1 v7 (gA y (y.2.1 a0 1) 1 v7 (lt (wI M8 (y.2.1 a0 1) v7.toNatClampNeg ((M8.1 (y.2.1 a0 1) v7.toNatClampNeg) - (M8.1 (y.2.1 a0 3) v7.toNatClampNeg))) fun (M19 : Mem) => lt (v7 + (1 : Int32)) fun (v20 : Int32) => s9 v20 M19)))))))) FUEL (0 : Int32) M2) (gK y a0 (0, 8) (gN (y.2.1 a0 3) (c0 (f_X8_fadeOf y a0 v1 M2) fun (r23 : Int32) (M24 : Mem) => gA y (y.2.1 a0 3) 1 v1 (lt (wI M24 (y.2.1 a0 3) v1.toNatClampNeg r23) fun (M26 : Mem) => lt (v1 + (1 : Int32)) fun (v27 : Int32) => s3 v27 M26))))) FUEL (0 : Int32) M
theorem w_X8_fade {g : GX} {l : Launch} (hG : GF g l) (y : Lay) (a0 : Nat) (M : Mem) : C0 g l yX8_fade cX8_fade 2 none 3 y [.ref a0] M (f_X8_fade y a0 M) := by
  refine C0_of hG (by decide) [some (.ref a0), none] rfl rfl (fun out h x Q C R => ?_)
  unfold f_X8_fade at h
  refine g_iconstv C tb_X8_fade_0_ok (i := 0) 0 rfl k_iconstv_0 ?_
  refine g_istore_n C tb_X8_fade_0_ok (i := 1) rfl rfl rfl ?_
  refine g_less (L' := [some (.ref a0), some (.int (0 : Int32))]) ⟨rfl, ⟨rfl, trivial⟩⟩ ?_
  refine fix_i (P := fun (f : Int32 → Mem → Option (Int32 × Mem)) => ∀ (v1 : Int32) (M2 : Mem), f v1 M2 = some out → GG g x 2 Q 0 0 y M2 2 [some (.ref a0), some (.int v1)] []) ?_ ?_ _ (0 : Int32) M h
  · intro v1 M2 h; exact (nn_e h).elim
  · intro s3 ih4 v1 M2 h
    refine g_iload_n C tb_X8_fade_0_ok (i := 2) rfl rfl ?_
    refine g_bipushv C tb_X8_fade_0_ok (i := 3) 30 rfl k_bipushv_30 ?_
    obtain ⟨t5, f6⟩ := br_e h
    refine g_icmp_ge C tb_X8_fade_0_ok (i := 4) 25 rfl rfl (fun c => ?_) (fun c => ?_)
    · have h := t5 c
      refine g_iconstv C tb_X8_fade_0_ok (i := 14) 0 rfl k_iconstv_0 ?_
      refine g_istore_n C tb_X8_fade_0_ok (i := 15) rfl rfl rfl ?_
      refine g_less (L' := [some (.ref a0), some (.int (0 : Int32))]) ⟨rfl, ⟨rfl, trivial⟩⟩ ?_
      refine fix_i (P := fun (f : Int32 → Mem → Option (Int32 × Mem)) => ∀ (v7 : Int32) (M8 : Mem), f v7 M8 = some out → GG g x 2 Q 0 0 y M8 27 [some (.ref a0), some (.int v7)] []) ?_ ?_ _ (0 : Int32) M2 h
      · intro v7 M8 h; exact (nn_e h).elim
      · intro s9 ih10 v7 M8 h
        refine g_iload_n C tb_X8_fade_0_ok (i := 16) rfl rfl ?_
        refine g_bipushv C tb_X8_fade_0_ok (i := 17) 30 rfl k_bipushv_30 ?_
        obtain ⟨t11, f12⟩ := br_e h
        refine g_icmp_ge C tb_X8_fade_0_ok (i := 18) 54 rfl rfl (fun c => ?_) (fun c => ?_)
        · have h := t11 c
          cases h
          exact g_vret0 C R tb_X8_fade_0_ok (i := 32) rfl
        · have h := f12 c
          refine g_aload_n C tb_X8_fade_0_ok (i := 19) rfl rfl ?_
          obtain ⟨k13, h⟩ := gK_e h
          obtain ⟨n14, h⟩ := gN_e h
          refine g_getR C tb_X8_fade_0_ok (i := 20) rfl fl_X8_9 rfl k13 n14 ?_
          refine g_iload_n C tb_X8_fade_0_ok (i := 21) rfl rfl ?_
          refine g_dup2 C tb_X8_fade_0_ok (i := 22) rfl rfl rfl ?_
          obtain ⟨b15, h⟩ := gA_e h
          refine g_iald C tb_X8_fade_0_ok (i := 23) rfl b15 ?_
          refine g_aload_n C tb_X8_fade_0_ok (i := 24) rfl rfl ?_
          obtain ⟨n16, h⟩ := gN_e h
          refine g_getR C tb_X8_fade_0_ok (i := 25) rfl fl_X8_18 rfl k13 n16 ?_
          refine g_iload_n C tb_X8_fade_0_ok (i := 26) rfl rfl ?_
          obtain ⟨b17, h⟩ := gA_e h
          refine g_iald C tb_X8_fade_0_ok (i := 27) rfl b17 ?_
          refine g_isub C tb_X8_fade_0_ok (i := 28) rfl ?_
          obtain ⟨b18, h⟩ := gA_e h
          refine g_iast C tb_X8_fade_0_ok (i := 29) rfl b18 ?_
          refine g_mem (fun M19 eM19 => ?_)
          have h := lt_e eM19 h
          obtain ⟨v20, ev20⟩ : ∃ w : Int32, w = v7 + (1 : Int32) := ⟨_, rfl⟩
          have h := lt_e ev20 h
          refine g_iincv C tb_X8_fade_0_ok (i := 30) (1 : Int32) ev20 rfl rfl k_iconstv_1 rfl rfl ?_
          refine g_goto C tb_X8_fade_0_ok (i := 31) 27 rfl rfl ?_
          exact g_less (L' := [some (.ref a0), some (.int v20)]) ⟨rfl, ⟨rfl, trivial⟩⟩ (ih10 v20 M19 h)
    · have h := f6 c
      refine g_aload_n C tb_X8_fade_0_ok (i := 5) rfl rfl ?_
      obtain ⟨k21, h⟩ := gK_e h
      obtain ⟨n22, h⟩ := gN_e h
      refine g_getR C tb_X8_fade_0_ok (i := 6) rfl fl_X8_18 rfl k21 n22 ?_
      refine g_iload_n C tb_X8_fade_0_ok (i := 7) rfl rfl ?_
      refine g_aload_n C tb_X8_fade_0_ok (i := 8) rfl rfl ?_
      refine g_iload_n C tb_X8_fade_0_ok (i := 9) rfl rfl ?_
      obtain ⟨r23, M24, er23, h⟩ := c0_e h
      refine g_callV0 C tb_X8_fade_0_ok (i := 10) [.int v1] rfl mw_X8_fadeOf mv_X8_fadeOf ml_X8_107 k21 rfl rfl rfl rfl (w_X8_fadeOf C.G y a0 v1 M2) er23 rfl rfl rfl ?_
      obtain ⟨b25, h⟩ := gA_e h
      refine g_iast C tb_X8_fade_0_ok (i := 11) rfl b25 ?_
      refine g_mem (fun M26 eM26 => ?_)
      have h := lt_e eM26 h
      obtain ⟨v27, ev27⟩ : ∃ w : Int32, w = v1 + (1 : Int32) := ⟨_, rfl⟩
      have h := lt_e ev27 h
      refine g_iincv C tb_X8_fade_0_ok (i := 12) (1 : Int32) ev27 rfl rfl k_iconstv_1 rfl rfl ?_
      refine g_goto C tb_X8_fade_0_ok (i := 13) 2 rfl rfl ?_
      exact g_less (L' := [some (.ref a0), some (.int v27)]) ⟨rfl, ⟨rfl, trivial⟩⟩ (ih4 v27 M26 h)
def f_X8_passDay (y : Lay) (a0 : Nat) (M : Mem) : Option (Int32 × Mem) := gK y a0 (0, 8) (gN (y.2.1 a0 1) (gN (y.2.1 a0 2) (gC y (y.2.1 a0 1) (y.2.1 a0 2) (0 : Int32) (0 : Int32) (30 : Int32) (lt (cpI M (y.2.1 a0 1) (y.2.1 a0 2) (0 : Int32).toNatClampNeg (0 : Int32).toNatClampNeg (30 : Int32).toNatClampNeg) fun (M5 : Mem) => fixN (fun _ _ => none) (fun (s8 : Int32 → Mem → Option (Int32 × Mem)) (v6 : Int32) (M7 : Mem) => gN (y.2.1 a0 0) (gK y (y.2.1 a0 0) (0, 1) (br ((M7.1 (y.2.1 a0 0) 4) ≤ v6) (c0 (f_X8_markOverdone y a0 M7) fun (r14 : Int32) (M15 : Mem) => fixN (fun _ _ => none) (fun (s18 : Int32 → Mem → Option (Int32 × Mem)) (v16 : Int32) (M17 : Mem) => br ((30 : Int32) ≤ v16) (c0 (f_X8_fade y a0 M17) fun (r22 : Int32) (M23 : Mem) => lt (wI M23 a0 11 ((M23.1 a0 11) + (1 : Int32))) fun (M24 : Mem) => some (0, M24)) (gA y (y.2.1 a0 1) 1 v16 (gA y (y.2.1 a0 1) 1 v16 (lt (wI M17 (y.2.1 a0 1) v16.toNatClampNeg (jmax (0 : Int32) ((M17.1 (y.2.1 a0 1) v16.toNatClampNeg) - (M17.1 (y.2.1 a0 0) 2)))) fun (M27 : Mem) => lt (v16 + (1 : Int32)) fun (v28 : Int32) => s18 v28 M27)))) FUEL (0 : Int32) M15) (cp (f_X8_isResting y a0 v6 M7) fun (r29 : Int32) => jn (fun (M30 : Mem) => lt (v6 + (1 : Int32)) fun (v32 : Int32) => s8 v32 M30) fun j31 => br (r29 = 0) (br ((M7.1 a0 9) ≤ 0) (j31 M7) (lt (wI M7 a0 9 ((M7.1 a0 9) - (1 : Int32))) fun (M37 : Mem) => c0 (f_X8_swish y a0 v6 (M37.1 a0 9) M37) fun (r38 : Int32) (M39 : Mem) => j31 M39)) (j31 M7))))) FUEL (0 : Int32) M5))))
theorem w_X8_passDay {g : GX} {l : Launch} (hG : GF g l) (y : Lay) (a0 : Nat) (M : Mem) : C0 g l yX8_passDay cX8_passDay 2 none 4 y [.ref a0] M (f_X8_passDay y a0 M) := by
  refine C0_of hG (by decide) [some (.ref a0), none] rfl rfl (fun out h x Q C R => ?_)
  unfold f_X8_passDay at h
  refine g_aload_n C tb_X8_passDay_0_ok (i := 0) rfl rfl ?_
  obtain ⟨k1, h⟩ := gK_e h
  obtain ⟨n2, h⟩ := gN_e h
  refine g_getR C tb_X8_passDay_0_ok (i := 1) rfl fl_X8_9 rfl k1 n2 ?_
  refine g_iconstv C tb_X8_passDay_0_ok (i := 2) 0 rfl k_iconstv_0 ?_
  refine g_aload_n C tb_X8_passDay_0_ok (i := 3) rfl rfl ?_
  obtain ⟨n3, h⟩ := gN_e h
  refine g_getR C tb_X8_passDay_0_ok (i := 4) rfl fl_X8_15 rfl k1 n3 ?_
  refine g_iconstv C tb_X8_passDay_0_ok (i := 5) 0 rfl k_iconstv_0 ?_
  refine g_bipushv C tb_X8_passDay_0_ok (i := 6) 30 rfl k_bipushv_30 ?_
  obtain ⟨b4, h⟩ := gC_e h
  refine g_copy C tb_X8_passDay_0_ok (i := 7) rfl mt_X8_58 rfl b4 ?_
  refine g_mem (fun M5 eM5 => ?_)
  have h := lt_e eM5 h
  refine g_iconstv C tb_X8_passDay_0_ok (i := 8) 0 rfl k_iconstv_0 ?_
  refine g_istore_n C tb_X8_passDay_0_ok (i := 9) rfl rfl rfl ?_
  refine g_less (L' := [some (.ref a0), some (.int (0 : Int32))]) ⟨rfl, ⟨rfl, trivial⟩⟩ ?_
  refine fix_i (P := fun (f : Int32 → Mem → Option (Int32 × Mem)) => ∀ (v6 : Int32) (M7 : Mem), f v6 M7 = some out → GG g x 2 Q 0 0 y M7 17 [some (.ref a0), some (.int v6)] []) ?_ ?_ _ (0 : Int32) M5 h
  · intro v6 M7 h; exact (nn_e h).elim
  · intro s8 ih9 v6 M7 h
    refine g_iload_n C tb_X8_passDay_0_ok (i := 10) rfl rfl ?_
    refine g_aload_n C tb_X8_passDay_0_ok (i := 11) rfl rfl ?_
    obtain ⟨n10, h⟩ := gN_e h
    refine g_getR C tb_X8_passDay_0_ok (i := 12) rfl fl_X8_32 rfl k1 n10 ?_
    obtain ⟨k11, h⟩ := gK_e h
    refine g_getI C tb_X8_passDay_0_ok (i := 13) rfl fl_X8_74 rfl k11 ?_
    obtain ⟨t12, f13⟩ := br_e h
    refine g_icmp_ge C tb_X8_passDay_0_ok (i := 14) 68 rfl rfl (fun c => ?_) (fun c => ?_)
    · have h := t12 c
      refine g_aload_n C tb_X8_passDay_0_ok (i := 35) rfl rfl ?_
      obtain ⟨r14, M15, er14, h⟩ := c0_e h
      refine g_callV0 C tb_X8_passDay_0_ok (i := 36) [] rfl mw_X8_markOverdone mv_X8_markOverdone ml_X8_86 k1 rfl rfl rfl rfl (w_X8_markOverdone C.G y a0 M7) er14 rfl rfl rfl ?_
      refine g_iconstv C tb_X8_passDay_0_ok (i := 37) 0 rfl k_iconstv_0 ?_
      refine g_istore_n C tb_X8_passDay_0_ok (i := 38) rfl rfl rfl ?_
      refine g_less (L' := [some (.ref a0), some (.int (0 : Int32))]) ⟨rfl, ⟨rfl, trivial⟩⟩ ?_
      refine fix_i (P := fun (f : Int32 → Mem → Option (Int32 × Mem)) => ∀ (v16 : Int32) (M17 : Mem), f v16 M17 = some out → GG g x 2 Q 0 0 y M17 74 [some (.ref a0), some (.int v16)] []) ?_ ?_ _ (0 : Int32) M15 h
      · intro v16 M17 h; exact (nn_e h).elim
      · intro s18 ih19 v16 M17 h
        refine g_iload_n C tb_X8_passDay_0_ok (i := 39) rfl rfl ?_
        refine g_bipushv C tb_X8_passDay_1_ok (i := 0) 30 rfl k_bipushv_30 ?_
        obtain ⟨t20, f21⟩ := br_e h
        refine g_icmp_ge C tb_X8_passDay_1_ok (i := 1) 110 rfl rfl (fun c => ?_) (fun c => ?_)
        · have h := t20 c
          refine g_aload_n C tb_X8_passDay_1_ok (i := 18) rfl rfl ?_
          obtain ⟨r22, M23, er22, h⟩ := c0_e h
          refine g_callV0 C tb_X8_passDay_1_ok (i := 19) [] rfl mw_X8_fade mv_X8_fade ml_X8_95 k1 rfl rfl rfl rfl (w_X8_fade C.G y a0 M17) er22 rfl rfl rfl ?_
          refine g_aload_n C tb_X8_passDay_1_ok (i := 20) rfl rfl ?_
          refine g_dup C tb_X8_passDay_1_ok (i := 21) rfl rfl ?_
          refine g_getI C tb_X8_passDay_1_ok (i := 22) rfl fl_X8_52 rfl k1 ?_
          refine g_iconstv C tb_X8_passDay_1_ok (i := 23) 1 rfl k_iconstv_1 ?_
          refine g_iadd C tb_X8_passDay_1_ok (i := 24) rfl ?_
          refine g_putI C tb_X8_passDay_1_ok (i := 25) rfl fl_X8_52 ft_8_11 rfl k1 ?_
          refine g_mem (fun M24 eM24 => ?_)
          have h := lt_e eM24 h
          cases h
          exact g_vret0 C R tb_X8_passDay_1_ok (i := 26) rfl
        · have h := f21 c
          refine g_aload_n C tb_X8_passDay_1_ok (i := 2) rfl rfl ?_
          refine g_getR C tb_X8_passDay_1_ok (i := 3) rfl fl_X8_9 rfl k1 n2 ?_
          refine g_iload_n C tb_X8_passDay_1_ok (i := 4) rfl rfl ?_
          refine g_iconstv C tb_X8_passDay_1_ok (i := 5) 0 rfl k_iconstv_0 ?_
          refine g_aload_n C tb_X8_passDay_1_ok (i := 6) rfl rfl ?_
          refine g_getR C tb_X8_passDay_1_ok (i := 7) rfl fl_X8_9 rfl k1 n2 ?_
          refine g_iload_n C tb_X8_passDay_1_ok (i := 8) rfl rfl ?_
          obtain ⟨b25, h⟩ := gA_e h
          refine g_iald C tb_X8_passDay_1_ok (i := 9) rfl b25 ?_
          refine g_aload_n C tb_X8_passDay_1_ok (i := 10) rfl rfl ?_
          refine g_getR C tb_X8_passDay_1_ok (i := 11) rfl fl_X8_32 rfl k1 n10 ?_
          refine g_getI C tb_X8_passDay_1_ok (i := 12) rfl fl_X8_89 rfl k11 ?_
          refine g_isub C tb_X8_passDay_1_ok (i := 13) rfl ?_
          refine g_max C tb_X8_passDay_1_ok (i := 14) rfl mt_X8_92 rfl rfl rfl ?_
          obtain ⟨b26, h⟩ := gA_e h
          refine g_iast C tb_X8_passDay_1_ok (i := 15) rfl b26 ?_
          refine g_mem (fun M27 eM27 => ?_)
          have h := lt_e eM27 h
          obtain ⟨v28, ev28⟩ : ∃ w : Int32, w = v16 + (1 : Int32) := ⟨_, rfl⟩
          have h := lt_e ev28 h
          refine g_iincv C tb_X8_passDay_1_ok (i := 16) (1 : Int32) ev28 rfl rfl k_iconstv_1 rfl rfl ?_
          refine g_goto C tb_X8_passDay_1_ok (i := 17) 74 rfl rfl ?_
          exact g_less (L' := [some (.ref a0), some (.int v28)]) ⟨rfl, ⟨rfl, trivial⟩⟩ (ih19 v28 M27 h)
    · have h := f13 c
      refine g_aload_n C tb_X8_passDay_0_ok (i := 15) rfl rfl ?_
      refine g_iload_n C tb_X8_passDay_0_ok (i := 16) rfl rfl ?_
      obtain ⟨r29, er29, h⟩ := cp_e h
      refine g_callV0 C tb_X8_passDay_0_ok (i := 17) [.int v6] rfl mw_X8_isResting mv_X8_isResting ml_X8_79 k1 rfl rfl rfl rfl (w_X8_isResting C.G y a0 v6 M7) (pm_s er29) rfl rfl rfl ?_
      obtain ⟨j31, ej31, h⟩ := jn_e h
      have J62 : ∀ (M30 : Mem), j31 M30 = some out → GG g x 2 Q 0 0 y M30 62 [some (.ref a0), some (.int v6)] [] := by
        intro M30 h; subst ej31
        obtain ⟨v32, ev32⟩ : ∃ w : Int32, w = v6 + (1 : Int32) := ⟨_, rfl⟩
        have h := lt_e ev32 h
        refine g_iincv C tb_X8_passDay_0_ok (i := 33) (1 : Int32) ev32 rfl rfl k_iconstv_1 rfl rfl ?_
        refine g_goto C tb_X8_passDay_0_ok (i := 34) 17 rfl rfl ?_
        exact g_less (L' := [some (.ref a0), some (.int v32)]) ⟨rfl, ⟨rfl, trivial⟩⟩ (ih9 v32 M30 h)
      obtain ⟨t33, f34⟩ := br_e h
      refine g_if_ne C tb_X8_passDay_0_ok (i := 18) 62 rfl rfl (fun c => ?_) (fun c => ?_)
      · have h := f34 c
        exact g_less (L' := [some (.ref a0), some (.int v6)]) ⟨rfl, ⟨rfl, trivial⟩⟩ (J62 M7 h)
      · have h := t33 c
        refine g_aload_n C tb_X8_passDay_0_ok (i := 19) rfl rfl ?_
        refine g_getI C tb_X8_passDay_0_ok (i := 20) rfl fl_X8_46 rfl k1 ?_
        obtain ⟨t35, f36⟩ := br_e h
        refine g_if_le C tb_X8_passDay_0_ok (i := 21) 62 rfl rfl (fun c => ?_) (fun c => ?_)
        · have h := t35 c
          exact g_less (L' := [some (.ref a0), some (.int v6)]) ⟨rfl, ⟨rfl, trivial⟩⟩ (J62 M7 h)
        · have h := f36 c
          refine g_aload_n C tb_X8_passDay_0_ok (i := 22) rfl rfl ?_
          refine g_dup C tb_X8_passDay_0_ok (i := 23) rfl rfl ?_
          refine g_getI C tb_X8_passDay_0_ok (i := 24) rfl fl_X8_46 rfl k1 ?_
          refine g_iconstv C tb_X8_passDay_0_ok (i := 25) 1 rfl k_iconstv_1 ?_
          refine g_isub C tb_X8_passDay_0_ok (i := 26) rfl ?_
          refine g_putI C tb_X8_passDay_0_ok (i := 27) rfl fl_X8_46 ft_8_9 rfl k1 ?_
          refine g_mem (fun M37 eM37 => ?_)
          have h := lt_e eM37 h
          refine g_aload_n C tb_X8_passDay_0_ok (i := 28) rfl rfl ?_
          refine g_iload_n C tb_X8_passDay_0_ok (i := 29) rfl rfl ?_
          refine g_aload_n C tb_X8_passDay_0_ok (i := 30) rfl rfl ?_
          refine g_getI C tb_X8_passDay_0_ok (i := 31) rfl fl_X8_46 rfl k1 ?_
          obtain ⟨r38, M39, er38, h⟩ := c0_e h
          refine g_callV0 C tb_X8_passDay_0_ok (i := 32) [.int v6, .int (M37.1 a0 9)] rfl mw_X8_swish mv_X8_swish ml_X8_82 k1 rfl rfl rfl rfl (w_X8_swish C.G y a0 v6 (M37.1 a0 9) M37) er38 rfl rfl rfl ?_
          exact g_less (L' := [some (.ref a0), some (.int v6)]) ⟨rfl, ⟨rfl, trivial⟩⟩ (J62 M39 h)
def f_X8_addKnobs (y : Lay) (a0 : Nat) (a1 : Int32) (M : Mem) : Option (Int32 × Mem) := gK y a0 (0, 8) (lt (wI M a0 9 (jmin (99 : Int32) ((M.1 a0 9) + a1))) fun (M2 : Mem) => some (0, M2))
theorem w_X8_addKnobs {g : GX} {l : Launch} (hG : GF g l) (y : Lay) (a0 : Nat) (a1 : Int32) (M : Mem) : C0 g l yX8_addKnobs cX8_addKnobs 2 none 0 y [.ref a0, .int a1] M (f_X8_addKnobs y a0 a1 M) := by
  refine C0_of hG (by decide) [some (.ref a0), some (.int a1)] rfl rfl (fun out h x Q C R => ?_)
  unfold f_X8_addKnobs at h
  refine g_aload_n C tb_X8_addKnobs_0_ok (i := 0) rfl rfl ?_
  refine g_bipushv C tb_X8_addKnobs_0_ok (i := 1) 99 rfl k_bipushv_99 ?_
  refine g_aload_n C tb_X8_addKnobs_0_ok (i := 2) rfl rfl ?_
  obtain ⟨k1, h⟩ := gK_e h
  refine g_getI C tb_X8_addKnobs_0_ok (i := 3) rfl fl_X8_46 rfl k1 ?_
  refine g_iload_n C tb_X8_addKnobs_0_ok (i := 4) rfl rfl ?_
  refine g_iadd C tb_X8_addKnobs_0_ok (i := 5) rfl ?_
  refine g_min C tb_X8_addKnobs_0_ok (i := 6) rfl mt_X8_64 rfl rfl rfl ?_
  refine g_putI C tb_X8_addKnobs_0_ok (i := 7) rfl fl_X8_46 ft_8_9 rfl k1 ?_
  refine g_mem (fun M2 eM2 => ?_)
  have h := lt_e eM2 h
  cases h
  exact g_vret0 C R tb_X8_addKnobs_0_ok (i := 8) rfl
def f_X8_copyFrom (y : Lay) (a0 : Nat) (a1 : Nat) (M : Mem) : Option (Int32 × Mem) := gK y a1 (0, 8) (gN (y.2.1 a1 1) (gK y a0 (0, 8) (gN (y.2.1 a0 1) (gC y (y.2.1 a1 1) (y.2.1 a0 1) (0 : Int32) (0 : Int32) (30 : Int32) (lt (cpI M (y.2.1 a1 1) (y.2.1 a0 1) (0 : Int32).toNatClampNeg (0 : Int32).toNatClampNeg (30 : Int32).toNatClampNeg) fun (M6 : Mem) => gN (y.2.1 a1 4) (gN (y.2.1 a0 4) (gC y (y.2.1 a1 4) (y.2.1 a0 4) (0 : Int32) (0 : Int32) (6 : Int32) (lt (cpI M6 (y.2.1 a1 4) (y.2.1 a0 4) (0 : Int32).toNatClampNeg (0 : Int32).toNatClampNeg (6 : Int32).toNatClampNeg) fun (M10 : Mem) => gN (y.2.1 a1 5) (gN (y.2.1 a0 5) (gC y (y.2.1 a1 5) (y.2.1 a0 5) (0 : Int32) (0 : Int32) (6 : Int32) (lt (cpI M10 (y.2.1 a1 5) (y.2.1 a0 5) (0 : Int32).toNatClampNeg (0 : Int32).toNatClampNeg (6 : Int32).toNatClampNeg) fun (M14 : Mem) => lt (wI M14 a0 7 (M14.1 a1 7)) fun (M15 : Mem) => lt (wI M15 a0 8 (M15.1 a1 8)) fun (M16 : Mem) => lt (wI M16 a0 9 (M16.1 a1 9)) fun (M17 : Mem) => lt (wI M17 a0 10 (M17.1 a1 10)) fun (M18 : Mem) => lt (wI M18 a0 11 (M18.1 a1 11)) fun (M19 : Mem) => lt (wI M19 a0 12 (M19.1 a1 12)) fun (M20 : Mem) => some (0, M20))))))))))))
theorem w_X8_copyFrom {g : GX} {l : Launch} (hG : GF g l) (y : Lay) (a0 : Nat) (a1 : Nat) (M : Mem) : C0 g l yX8_copyFrom cX8_copyFrom 2 none 0 y [.ref a0, .ref a1] M (f_X8_copyFrom y a0 a1 M) := by
  refine C0_of hG (by decide) [some (.ref a0), some (.ref a1)] rfl rfl (fun out h x Q C R => ?_)
  unfold f_X8_copyFrom at h
  refine g_aload_n C tb_X8_copyFrom_0_ok (i := 0) rfl rfl ?_
  obtain ⟨k1, h⟩ := gK_e h
  obtain ⟨n2, h⟩ := gN_e h
  refine g_getR C tb_X8_copyFrom_0_ok (i := 1) rfl fl_X8_9 rfl k1 n2 ?_
  refine g_iconstv C tb_X8_copyFrom_0_ok (i := 2) 0 rfl k_iconstv_0 ?_
  refine g_aload_n C tb_X8_copyFrom_0_ok (i := 3) rfl rfl ?_
  obtain ⟨k3, h⟩ := gK_e h
  obtain ⟨n4, h⟩ := gN_e h
  refine g_getR C tb_X8_copyFrom_0_ok (i := 4) rfl fl_X8_9 rfl k3 n4 ?_
  refine g_iconstv C tb_X8_copyFrom_0_ok (i := 5) 0 rfl k_iconstv_0 ?_
  refine g_bipushv C tb_X8_copyFrom_0_ok (i := 6) 30 rfl k_bipushv_30 ?_
  obtain ⟨b5, h⟩ := gC_e h
  refine g_copy C tb_X8_copyFrom_0_ok (i := 7) rfl mt_X8_58 rfl b5 ?_
  refine g_mem (fun M6 eM6 => ?_)
  have h := lt_e eM6 h
  refine g_aload_n C tb_X8_copyFrom_0_ok (i := 8) rfl rfl ?_
  obtain ⟨n7, h⟩ := gN_e h
  refine g_getR C tb_X8_copyFrom_0_ok (i := 9) rfl fl_X8_21 rfl k1 n7 ?_
  refine g_iconstv C tb_X8_copyFrom_0_ok (i := 10) 0 rfl k_iconstv_0 ?_
  refine g_aload_n C tb_X8_copyFrom_0_ok (i := 11) rfl rfl ?_
  obtain ⟨n8, h⟩ := gN_e h
  refine g_getR C tb_X8_copyFrom_0_ok (i := 12) rfl fl_X8_21 rfl k3 n8 ?_
  refine g_iconstv C tb_X8_copyFrom_0_ok (i := 13) 0 rfl k_iconstv_0 ?_
  refine g_bipushv C tb_X8_copyFrom_0_ok (i := 14) 6 rfl k_bipushv_6 ?_
  obtain ⟨b9, h⟩ := gC_e h
  refine g_copy C tb_X8_copyFrom_0_ok (i := 15) rfl mt_X8_58 rfl b9 ?_
  refine g_mem (fun M10 eM10 => ?_)
  have h := lt_e eM10 h
  refine g_aload_n C tb_X8_copyFrom_0_ok (i := 16) rfl rfl ?_
  obtain ⟨n11, h⟩ := gN_e h
  refine g_getR C tb_X8_copyFrom_0_ok (i := 17) rfl fl_X8_24 rfl k1 n11 ?_
  refine g_iconstv C tb_X8_copyFrom_0_ok (i := 18) 0 rfl k_iconstv_0 ?_
  refine g_aload_n C tb_X8_copyFrom_0_ok (i := 19) rfl rfl ?_
  obtain ⟨n12, h⟩ := gN_e h
  refine g_getR C tb_X8_copyFrom_0_ok (i := 20) rfl fl_X8_24 rfl k3 n12 ?_
  refine g_iconstv C tb_X8_copyFrom_0_ok (i := 21) 0 rfl k_iconstv_0 ?_
  refine g_bipushv C tb_X8_copyFrom_0_ok (i := 22) 6 rfl k_bipushv_6 ?_
  obtain ⟨b13, h⟩ := gC_e h
  refine g_copy C tb_X8_copyFrom_0_ok (i := 23) rfl mt_X8_58 rfl b13 ?_
  refine g_mem (fun M14 eM14 => ?_)
  have h := lt_e eM14 h
  refine g_aload_n C tb_X8_copyFrom_0_ok (i := 24) rfl rfl ?_
  refine g_aload_n C tb_X8_copyFrom_0_ok (i := 25) rfl rfl ?_
  refine g_getI C tb_X8_copyFrom_0_ok (i := 26) rfl fl_X8_39 rfl k1 ?_
  refine g_putI C tb_X8_copyFrom_0_ok (i := 27) rfl fl_X8_39 ft_8_7 rfl k3 ?_
  refine g_mem (fun M15 eM15 => ?_)
  have h := lt_e eM15 h
  refine g_aload_n C tb_X8_copyFrom_0_ok (i := 28) rfl rfl ?_
  refine g_aload_n C tb_X8_copyFrom_0_ok (i := 29) rfl rfl ?_
  refine g_getI C tb_X8_copyFrom_0_ok (i := 30) rfl fl_X8_43 rfl k1 ?_
  refine g_putI C tb_X8_copyFrom_0_ok (i := 31) rfl fl_X8_43 ft_8_8 rfl k3 ?_
  refine g_mem (fun M16 eM16 => ?_)
  have h := lt_e eM16 h
  refine g_aload_n C tb_X8_copyFrom_0_ok (i := 32) rfl rfl ?_
  refine g_aload_n C tb_X8_copyFrom_0_ok (i := 33) rfl rfl ?_
  refine g_getI C tb_X8_copyFrom_0_ok (i := 34) rfl fl_X8_46 rfl k1 ?_
  refine g_putI C tb_X8_copyFrom_0_ok (i := 35) rfl fl_X8_46 ft_8_9 rfl k3 ?_
  refine g_mem (fun M17 eM17 => ?_)
  have h := lt_e eM17 h
  refine g_aload_n C tb_X8_copyFrom_0_ok (i := 36) rfl rfl ?_
  refine g_aload_n C tb_X8_copyFrom_0_ok (i := 37) rfl rfl ?_
  refine g_getI C tb_X8_copyFrom_0_ok (i := 38) rfl fl_X8_49 rfl k1 ?_
  refine g_putI C tb_X8_copyFrom_0_ok (i := 39) rfl fl_X8_49 ft_8_10 rfl k3 ?_
  refine g_mem (fun M18 eM18 => ?_)
  have h := lt_e eM18 h
  refine g_aload_n C tb_X8_copyFrom_1_ok (i := 0) rfl rfl ?_
  refine g_aload_n C tb_X8_copyFrom_1_ok (i := 1) rfl rfl ?_
  refine g_getI C tb_X8_copyFrom_1_ok (i := 2) rfl fl_X8_52 rfl k1 ?_
  refine g_putI C tb_X8_copyFrom_1_ok (i := 3) rfl fl_X8_52 ft_8_11 rfl k3 ?_
  refine g_mem (fun M19 eM19 => ?_)
  have h := lt_e eM19 h
  refine g_aload_n C tb_X8_copyFrom_1_ok (i := 4) rfl rfl ?_
  refine g_aload_n C tb_X8_copyFrom_1_ok (i := 5) rfl rfl ?_
  refine g_getI C tb_X8_copyFrom_1_ok (i := 6) rfl fl_X8_55 rfl k1 ?_
  refine g_putI C tb_X8_copyFrom_1_ok (i := 7) rfl fl_X8_55 ft_8_12 rfl k3 ?_
  refine g_mem (fun M20 eM20 => ?_)
  have h := lt_e eM20 h
  cases h
  exact g_vret0 C R tb_X8_copyFrom_1_ok (i := 8) rfl
def f_X11_lookAhead (y : Lay) (a0 : Nat) (a1 : Int32) (M : Mem) : Option (Int32 × Mem) := gK y a0 (0, 11) (gN (y.2.1 a0 5) (gN (y.2.1 a0 3) (gK y (y.2.1 a0 3) (0, 4) (gN (y.2.1 (y.2.1 a0 3) 0) (gK y (y.2.1 a0 5) (0, 8) (c0 (f_X8_copyFrom y (y.2.1 a0 5) (y.2.1 (y.2.1 a0 3) 0) M) fun (r7 : Int32) (M8 : Mem) => fixN (fun _ _ => none) (fun (s11 : Int32 → Mem → Option (Int32 × Mem)) (v9 : Int32) (M10 : Mem) => br (a1 ≤ v9) (some (0, M10)) (c0 (f_X8_passDay y (y.2.1 a0 5) M10) fun (r15 : Int32) (M16 : Mem) => lt (v9 + (1 : Int32)) fun (v17 : Int32) => s11 v17 M16)) FUEL (0 : Int32) M8))))))
theorem w_X11_lookAhead {g : GX} {l : Launch} (hG : GF g l) (y : Lay) (a0 : Nat) (a1 : Int32) (M : Mem) : C0 g l yX11_lookAhead cX11_lookAhead 3 none 5 y [.ref a0, .int a1] M (f_X11_lookAhead y a0 a1 M) := by
  refine C0_of hG (by decide) [some (.ref a0), some (.int a1), none] rfl rfl (fun out h x Q C R => ?_)
  unfold f_X11_lookAhead at h
  refine g_aload_n C tb_X11_lookAhead_0_ok (i := 0) rfl rfl ?_
  obtain ⟨k1, h⟩ := gK_e h
  obtain ⟨n2, h⟩ := gN_e h
  refine g_getR C tb_X11_lookAhead_0_ok (i := 1) rfl fl_X11_47 rfl k1 n2 ?_
  refine g_aload_n C tb_X11_lookAhead_0_ok (i := 2) rfl rfl ?_
  obtain ⟨n3, h⟩ := gN_e h
  refine g_getR C tb_X11_lookAhead_0_ok (i := 3) rfl fl_X11_37 rfl k1 n3 ?_
  obtain ⟨k4, h⟩ := gK_e h
  obtain ⟨n5, h⟩ := gN_e h
  refine g_getR C tb_X11_lookAhead_0_ok (i := 4) rfl fl_X11_53 rfl k4 n5 ?_
  obtain ⟨k6, h⟩ := gK_e h
  obtain ⟨r7, M8, er7, h⟩ := c0_e h
  refine g_callV0 C tb_X11_lookAhead_0_ok (i := 5) [.ref (y.2.1 (y.2.1 a0 3) 0)] rfl mw_X8_copyFrom mv_X8_copyFrom ml_X11_343 k6 rfl rfl rfl rfl (w_X8_copyFrom C.G y (y.2.1 a0 5) (y.2.1 (y.2.1 a0 3) 0) M) er7 rfl rfl rfl ?_
  refine g_iconstv C tb_X11_lookAhead_0_ok (i := 6) 0 rfl k_iconstv_0 ?_
  refine g_istore_n C tb_X11_lookAhead_0_ok (i := 7) rfl rfl rfl ?_
  refine g_less (L' := [some (.ref a0), some (.int a1), some (.int (0 : Int32))]) ⟨rfl, ⟨rfl, ⟨rfl, trivial⟩⟩⟩ ?_
  refine fix_i (P := fun (f : Int32 → Mem → Option (Int32 × Mem)) => ∀ (v9 : Int32) (M10 : Mem), f v9 M10 = some out → GG g x 3 Q 0 0 y M10 16 [some (.ref a0), some (.int a1), some (.int v9)] []) ?_ ?_ _ (0 : Int32) M8 h
  · intro v9 M10 h; exact (nn_e h).elim
  · intro s11 ih12 v9 M10 h
    refine g_iload_n C tb_X11_lookAhead_0_ok (i := 8) rfl rfl ?_
    refine g_iload_n C tb_X11_lookAhead_0_ok (i := 9) rfl rfl ?_
    obtain ⟨t13, f14⟩ := br_e h
    refine g_icmp_ge C tb_X11_lookAhead_0_ok (i := 10) 34 rfl rfl (fun c => ?_) (fun c => ?_)
    · have h := t13 c
      cases h
      exact g_vret0 C R tb_X11_lookAhead_0_ok (i := 16) rfl
    · have h := f14 c
      refine g_aload_n C tb_X11_lookAhead_0_ok (i := 11) rfl rfl ?_
      refine g_getR C tb_X11_lookAhead_0_ok (i := 12) rfl fl_X11_47 rfl k1 n2 ?_
      obtain ⟨r15, M16, er15, h⟩ := c0_e h
      refine g_callV0 C tb_X11_lookAhead_0_ok (i := 13) [] rfl mw_X8_passDay mv_X8_passDay ml_X11_221 k6 rfl rfl rfl rfl (w_X8_passDay C.G y (y.2.1 a0 5) M10) er15 rfl rfl rfl ?_
      obtain ⟨v17, ev17⟩ : ∃ w : Int32, w = v9 + (1 : Int32) := ⟨_, rfl⟩
      have h := lt_e ev17 h
      refine g_iincv C tb_X11_lookAhead_0_ok (i := 14) (1 : Int32) ev17 rfl rfl k_iconstv_1 rfl rfl ?_
      refine g_goto C tb_X11_lookAhead_0_ok (i := 15) 16 rfl rfl ?_
      exact g_less (L' := [some (.ref a0), some (.int a1), some (.int v17)]) ⟨rfl, ⟨rfl, ⟨rfl, trivial⟩⟩⟩ (ih12 v17 M16 h)
def f_X8_setSpot (y : Lay) (a0 : Nat) (a1 : Int32) (a2 : Int32) (M : Mem) : Option (Int32 × Mem) := jn (fun (M1 : Mem) => some (0, M1)) fun j2 => br (a1 < 0) (j2 M) (br ((6 : Int32) ≤ a1) (j2 M) (gK y a0 (0, 8) (gN (y.2.1 a0 4) (gA y (y.2.1 a0 4) 1 a1 (lt (wI M (y.2.1 a0 4) a1.toNatClampNeg a2) fun (M10 : Mem) => j2 M10)))))
theorem w_X8_setSpot {g : GX} {l : Launch} (hG : GF g l) (y : Lay) (a0 : Nat) (a1 : Int32) (a2 : Int32) (M : Mem) : C0 g l yX8_setSpot cX8_setSpot 3 none 0 y [.ref a0, .int a1, .int a2] M (f_X8_setSpot y a0 a1 a2 M) := by
  refine C0_of hG (by decide) [some (.ref a0), some (.int a1), some (.int a2)] rfl rfl (fun out h x Q C R => ?_)
  unfold f_X8_setSpot at h
  refine g_iload_n C tb_X8_setSpot_0_ok (i := 0) rfl rfl ?_
  obtain ⟨j2, ej2, h⟩ := jn_e h
  have J17 : ∀ (M1 : Mem), j2 M1 = some out → GG g x 3 Q 0 0 y M1 17 [none, none, none] [] := by
    intro M1 h; subst ej2
    cases h
    exact g_vret0 C R tb_X8_setSpot_0_ok (i := 10) rfl
  obtain ⟨t3, f4⟩ := br_e h
  refine g_if_lt C tb_X8_setSpot_0_ok (i := 1) 17 rfl rfl (fun c => ?_) (fun c => ?_)
  · have h := t3 c
    exact g_less (L' := [none, none, none]) trivial (J17 M h)
  · have h := f4 c
    refine g_iload_n C tb_X8_setSpot_0_ok (i := 2) rfl rfl ?_
    refine g_bipushv C tb_X8_setSpot_0_ok (i := 3) 6 rfl k_bipushv_6 ?_
    obtain ⟨t5, f6⟩ := br_e h
    refine g_icmp_ge C tb_X8_setSpot_0_ok (i := 4) 17 rfl rfl (fun c => ?_) (fun c => ?_)
    · have h := t5 c
      exact g_less (L' := [none, none, none]) trivial (J17 M h)
    · have h := f6 c
      refine g_aload_n C tb_X8_setSpot_0_ok (i := 5) rfl rfl ?_
      obtain ⟨k7, h⟩ := gK_e h
      obtain ⟨n8, h⟩ := gN_e h
      refine g_getR C tb_X8_setSpot_0_ok (i := 6) rfl fl_X8_21 rfl k7 n8 ?_
      refine g_iload_n C tb_X8_setSpot_0_ok (i := 7) rfl rfl ?_
      refine g_iload_n C tb_X8_setSpot_0_ok (i := 8) rfl rfl ?_
      obtain ⟨b9, h⟩ := gA_e h
      refine g_iast C tb_X8_setSpot_0_ok (i := 9) rfl b9 ?_
      refine g_mem (fun M10 eM10 => ?_)
      have h := lt_e eM10 h
      exact g_less (L' := [none, none, none]) trivial (J17 M10 h)
def f_X8_allBlue (y : Lay) (a0 : Nat) (M : Mem) : Option Int32 := fixN (fun _ _ => none) (fun (s3 : Int32 → Int32 → Option Int32) (v1 : Int32) (v2 : Int32) => br ((30 : Int32) ≤ v2) (some v1) (gK y a0 (0, 8) (gN (y.2.1 a0 1) (gA y (y.2.1 a0 1) 1 v2 (lt (v1 + (M.1 (y.2.1 a0 1) v2.toNatClampNeg)) fun (v10 : Int32) => lt (v2 + (1 : Int32)) fun (v11 : Int32) => s3 v10 v11))))) FUEL (0 : Int32) (0 : Int32)
theorem w_X8_allBlue {g : GX} {l : Launch} (hG : GF g l) (y : Lay) (a0 : Nat) (M : Mem) : C0 g l yX8_allBlue cX8_allBlue 3 (some .int) 0 y [.ref a0] M (pm M (f_X8_allBlue y a0 M)) := by
  refine CP_of hG (by decide) [some (.ref a0), none, none] rfl rfl (fun out h x Q C R => ?_)
  unfold f_X8_allBlue at h
  refine g_iconstv C tb_X8_allBlue_0_ok (i := 0) 0 rfl k_iconstv_0 ?_
  refine g_istore_n C tb_X8_allBlue_0_ok (i := 1) rfl rfl rfl ?_
  refine g_iconstv C tb_X8_allBlue_0_ok (i := 2) 0 rfl k_iconstv_0 ?_
  refine g_istore_n C tb_X8_allBlue_0_ok (i := 3) rfl rfl rfl ?_
  refine g_less (L' := [some (.ref a0), some (.int (0 : Int32)), some (.int (0 : Int32))]) ⟨rfl, ⟨rfl, ⟨rfl, trivial⟩⟩⟩ ?_
  refine fix_i (P := fun (f : Int32 → Int32 → Option Int32) => ∀ (v1 : Int32) (v2 : Int32), f v1 v2 = some out → GG g x 3 Q 0 0 y M 4 [some (.ref a0), some (.int v1), some (.int v2)] []) ?_ ?_ _ (0 : Int32) (0 : Int32) h
  · intro v1 v2 h; exact (nn_e h).elim
  · intro s3 ih4 v1 v2 h
    refine g_iload_n C tb_X8_allBlue_0_ok (i := 4) rfl rfl ?_
    refine g_bipushv C tb_X8_allBlue_0_ok (i := 5) 30 rfl k_bipushv_30 ?_
    obtain ⟨t5, f6⟩ := br_e h
    refine g_icmp_ge C tb_X8_allBlue_0_ok (i := 6) 25 rfl rfl (fun c => ?_) (fun c => ?_)
    · have h := t5 c
      refine g_iload_n C tb_X8_allBlue_0_ok (i := 16) rfl rfl ?_
      cases h
      exact g_iret0 C R tb_X8_allBlue_0_ok (i := 17) rfl
    · have h := f6 c
      refine g_iload_n C tb_X8_allBlue_0_ok (i := 7) rfl rfl ?_
      refine g_aload_n C tb_X8_allBlue_0_ok (i := 8) rfl rfl ?_
      obtain ⟨k7, h⟩ := gK_e h
      obtain ⟨n8, h⟩ := gN_e h
      refine g_getR C tb_X8_allBlue_0_ok (i := 9) rfl fl_X8_9 rfl k7 n8 ?_
      refine g_iload_n C tb_X8_allBlue_0_ok (i := 10) rfl rfl ?_
      obtain ⟨b9, h⟩ := gA_e h
      refine g_iald C tb_X8_allBlue_0_ok (i := 11) rfl b9 ?_
      refine g_iadd C tb_X8_allBlue_0_ok (i := 12) rfl ?_
      refine g_topi (fun v10 ev10 => ?_)
      have h := lt_e ev10 h
      refine g_istore_n C tb_X8_allBlue_0_ok (i := 13) rfl rfl rfl ?_
      obtain ⟨v11, ev11⟩ : ∃ w : Int32, w = v2 + (1 : Int32) := ⟨_, rfl⟩
      have h := lt_e ev11 h
      refine g_iincv C tb_X8_allBlue_0_ok (i := 14) (1 : Int32) ev11 rfl rfl k_iconstv_1 rfl rfl ?_
      refine g_goto C tb_X8_allBlue_0_ok (i := 15) 4 rfl rfl ?_
      exact g_less (L' := [some (.ref a0), some (.int v10), some (.int v11)]) ⟨rfl, ⟨rfl, ⟨rfl, trivial⟩⟩⟩ (ih4 v10 v11 h)
def f_X11_needWithin (y : Lay) (a0 : Nat) (a1 : Int32) (a2 : Int32) (a3 : Int32) (M : Mem) : Option (Nat × Int32 × Mem) := jn (fun (_u : Unit) => some (2, 0, M)) fun j1 => br (a1 < a2) (j1 ()) (br (a1 ≤ a3) (some (0, 0, M)) (j1 ()))
theorem w_X11_needWithin {g : GX} {l : Launch} (hG : GF g l) (y : Lay) (a0 : Nat) (a1 : Int32) (a2 : Int32) (a3 : Int32) (M : Mem) : C1 g l yX11_needWithin cX11_needWithin 4 none 0 1 6 y [.ref a0, .int a1, .int a2, .int a3] M (f_X11_needWithin y a0 a1 a2 a3 M) := by
  refine C1_of hG (by decide) [some (.ref a0), some (.int a1), some (.int a2), some (.int a3)] rfl rfl (fun out h x Q C R => ?_)
  unfold f_X11_needWithin at h
  refine g_iload_n C tb_X11_needWithin_0_ok (i := 0) rfl rfl ?_
  refine g_iload_n C tb_X11_needWithin_0_ok (i := 1) rfl rfl ?_
  obtain ⟨j1, ej1, h⟩ := jn_e h
  have J10 : ∀ (_u : Unit), j1 _u = some out → GG g x 4 Q 0 0 y M 10 [none, none, none, none] [] := by
    intro _u h; subst ej1
    cases h
    exact g_throw (T2 := []) C tb_X11_needWithin_0_ok (i0 := 6) (i1 := 7) (i2 := 8) (i3 := 9) (e := 1) R tw_X11_96_98 rfl rfl rfl rfl rfl rfl rfl
  obtain ⟨t2, f3⟩ := br_e h
  refine g_icmp_lt C tb_X11_needWithin_0_ok (i := 2) 10 rfl rfl (fun c => ?_) (fun c => ?_)
  · have h := t2 c
    exact g_less (L' := [none, none, none, none]) trivial (J10 () h)
  · have h := f3 c
    refine g_iload_n C tb_X11_needWithin_0_ok (i := 3) rfl rfl ?_
    refine g_iload_n C tb_X11_needWithin_0_ok (i := 4) rfl rfl ?_
    obtain ⟨t4, f5⟩ := br_e h
    refine g_icmp_le C tb_X11_needWithin_0_ok (i := 5) 18 rfl rfl (fun c => ?_) (fun c => ?_)
    · have h := t4 c
      cases h
      exact g_vret1 C R rfl rfl tb_X11_needWithin_0_ok (i := 10) rfl
    · have h := f5 c
      exact g_less (L' := [none, none, none, none]) trivial (J10 () h)
def f_X11_needWhat (y : Lay) (a0 : Nat) (a1 : Int32) (a2 : Int32) (M : Mem) : Option (Nat × Int32 × Mem) := jn (fun (_u : Unit) => some (1, 0, M)) fun j1 => br (a1 < 0) (j1 ()) (br (a1 ≤ a2) (some (0, 0, M)) (j1 ()))
theorem w_X11_needWhat {g : GX} {l : Launch} (hG : GF g l) (y : Lay) (a0 : Nat) (a1 : Int32) (a2 : Int32) (M : Mem) : C1 g l yX11_needWhat cX11_needWhat 3 none 0 1 6 y [.ref a0, .int a1, .int a2] M (f_X11_needWhat y a0 a1 a2 M) := by
  refine C1_of hG (by decide) [some (.ref a0), some (.int a1), some (.int a2)] rfl rfl (fun out h x Q C R => ?_)
  unfold f_X11_needWhat at h
  refine g_iload_n C tb_X11_needWhat_0_ok (i := 0) rfl rfl ?_
  obtain ⟨j1, ej1, h⟩ := jn_e h
  have J9 : ∀ (_u : Unit), j1 _u = some out → GG g x 3 Q 0 0 y M 9 [none, none, none] [] := by
    intro _u h; subst ej1
    cases h
    exact g_throw (T2 := []) C tb_X11_needWhat_0_ok (i0 := 5) (i1 := 6) (i2 := 7) (i3 := 8) (e := 0) R tw_X11_176_178 rfl rfl rfl rfl rfl rfl rfl
  obtain ⟨t2, f3⟩ := br_e h
  refine g_if_lt C tb_X11_needWhat_0_ok (i := 1) 9 rfl rfl (fun c => ?_) (fun c => ?_)
  · have h := t2 c
    exact g_less (L' := [none, none, none]) trivial (J9 () h)
  · have h := f3 c
    refine g_iload_n C tb_X11_needWhat_0_ok (i := 2) rfl rfl ?_
    refine g_iload_n C tb_X11_needWhat_0_ok (i := 3) rfl rfl ?_
    obtain ⟨t4, f5⟩ := br_e h
    refine g_icmp_le C tb_X11_needWhat_0_ok (i := 4) 17 rfl rfl (fun c => ?_) (fun c => ?_)
    · have h := t4 c
      cases h
      exact g_vret1 C R rfl rfl tb_X11_needWhat_0_ok (i := 9) rfl
    · have h := f5 c
      exact g_less (L' := [none, none, none]) trivial (J9 () h)
def f_X3_draw (y : Lay) (a0 : Nat) (a1 : Int32) (M : Mem) : Option (Int32 × Mem) := gK y a0 (0, 3) (lt (wI M a0 0 (((M.1 a0 0) * (1103515245 : Int32)) + (12345 : Int32))) fun (M2 : Mem) => lt ((((M2.1 a0 0).toUInt32 >>> ((16 : Int32).toUInt32 &&& Int32.toUInt32 31)).toInt32) &&& (32767 : Int32)) fun (v3 : Int32) => jn (fun (v4 : Int32) => some (v4, M2)) fun j5 => br (a1 ≤ 0) (j5 (0 : Int32)) (gd (¬ a1 = 0) (j5 (v3 - v3 / a1 * a1))))
theorem w_X3_draw {g : GX} {l : Launch} (hG : GF g l) (y : Lay) (a0 : Nat) (a1 : Int32) (M : Mem) : C0 g l yX3_draw cX3_draw 3 (some .int) 0 y [.ref a0, .int a1] M (f_X3_draw y a0 a1 M) := by
  refine C0_of hG (by decide) [some (.ref a0), some (.int a1), none] rfl rfl (fun out h x Q C R => ?_)
  unfold f_X3_draw at h
  refine g_aload_n C tb_X3_draw_0_ok (i := 0) rfl rfl ?_
  refine g_aload_n C tb_X3_draw_0_ok (i := 1) rfl rfl ?_
  obtain ⟨k1, h⟩ := gK_e h
  refine g_getI C tb_X3_draw_0_ok (i := 2) rfl fl_X3_7 rfl k1 ?_
  refine g_ldcI C tb_X3_draw_0_ok (i := 3) rfl cl_X3_13 ?_
  refine g_imul C tb_X3_draw_0_ok (i := 4) rfl ?_
  refine g_sipushv C tb_X3_draw_0_ok (i := 5) 12345 rfl k_sipushv_12345 ?_
  refine g_iadd C tb_X3_draw_0_ok (i := 6) rfl ?_
  refine g_putI C tb_X3_draw_0_ok (i := 7) rfl fl_X3_7 ft_3_0 rfl k1 ?_
  refine g_mem (fun M2 eM2 => ?_)
  have h := lt_e eM2 h
  refine g_aload_n C tb_X3_draw_0_ok (i := 8) rfl rfl ?_
  refine g_getI C tb_X3_draw_0_ok (i := 9) rfl fl_X3_7 rfl k1 ?_
  refine g_bipushv C tb_X3_draw_0_ok (i := 10) 16 rfl k_bipushv_16 ?_
  refine g_iushr C tb_X3_draw_0_ok (i := 11) rfl ?_
  refine g_sipushv C tb_X3_draw_0_ok (i := 12) 32767 rfl k_sipushv_32767 ?_
  refine g_iand C tb_X3_draw_0_ok (i := 13) rfl ?_
  refine g_topi (fun v3 ev3 => ?_)
  have h := lt_e ev3 h
  refine g_istore_n C tb_X3_draw_0_ok (i := 14) rfl rfl rfl ?_
  refine g_iload_n C tb_X3_draw_0_ok (i := 15) rfl rfl ?_
  obtain ⟨j5, ej5, h⟩ := jn_e h
  have J38 : ∀ (v4 : Int32), j5 v4 = some out → GG g x 3 Q 0 0 y M2 38 [none, none, none] [.int v4] := by
    intro v4 h; subst ej5
    cases h
    exact g_iret0 C R tb_X3_draw_0_ok (i := 22) rfl
  obtain ⟨t6, f7⟩ := br_e h
  refine g_if_le C tb_X3_draw_0_ok (i := 16) 37 rfl rfl (fun c => ?_) (fun c => ?_)
  · have h := t6 c
    refine g_iconstv C tb_X3_draw_0_ok (i := 21) 0 rfl k_iconstv_0 ?_
    exact g_less (L' := [none, none, none]) trivial (J38 (0 : Int32) h)
  · have h := f7 c
    refine g_iload_n C tb_X3_draw_0_ok (i := 17) rfl rfl ?_
    refine g_iload_n C tb_X3_draw_0_ok (i := 18) rfl rfl ?_
    obtain ⟨n8, h⟩ := gd_e h
    refine g_irem C tb_X3_draw_0_ok (i := 19) rfl n8 ?_
    refine g_goto C tb_X3_draw_0_ok (i := 20) 38 rfl rfl ?_
    exact g_less (L' := [none, none, none]) trivial (J38 (v3 - v3 / a1 * a1) h)
def f_X11_drawAhead (y : Lay) (a0 : Nat) (M : Mem) : Option (Int32 × Mem) := gK y a0 (0, 11) (gN (y.2.1 a0 7) (gK y (y.2.1 a0 7) (0, 3) (c0 (f_X3_draw y (y.2.1 a0 7) (5 : Int32) M) fun (r4 : Int32) (M5 : Mem) => jn (fun (M6 : Mem) => some (0, M6)) fun j7 => br (r4 < (0 : Int32) ∨ (2 : Int32) < r4) (j7 M5) (br (r4 = (0 : Int32)) (gN (y.2.1 a0 5) (gN (y.2.1 a0 1) (gK y (y.2.1 a0 1) (0, 1) (cp (f_X1_cells y (y.2.1 a0 1) M5) fun (r13 : Int32) => c0 (f_X3_draw y (y.2.1 a0 7) r13 M5) fun (r14 : Int32) (M15 : Mem) => gK y (y.2.1 a0 5) (0, 8) (c0 (f_X8_addBlue y (y.2.1 a0 5) r14 (20 : Int32) M15) fun (r17 : Int32) (M18 : Mem) => j7 M18))))) (br (r4 = (1 : Int32)) (gN (y.2.1 a0 1) (gK y (y.2.1 a0 1) (0, 1) (br ((M5.1 (y.2.1 a0 1) 4) ≤ 0) (j7 M5) (c0 (f_X3_draw y (y.2.1 a0 7) (M5.1 (y.2.1 a0 1) 4) M5) fun (r25 : Int32) (M26 : Mem) => gN (y.2.1 a0 5) (cp (f_X1_cells y (y.2.1 a0 1) M26) fun (r28 : Int32) => c0 (f_X3_draw y (y.2.1 a0 7) r28 M26) fun (r29 : Int32) (M30 : Mem) => gK y (y.2.1 a0 5) (0, 8) (c0 (f_X8_setSpot y (y.2.1 a0 5) r25 r29 M30) fun (r32 : Int32) (M33 : Mem) => j7 M33)))))) (gN (y.2.1 a0 5) (gK y (y.2.1 a0 5) (0, 8) (c0 (f_X8_addKnobs y (y.2.1 a0 5) (5 : Int32) M5) fun (r38 : Int32) (M39 : Mem) => j7 M39))))))))
theorem w_X11_drawAhead {g : GX} {l : Launch} (hG : GF g l) (y : Lay) (a0 : Nat) (M : Mem) : C0 g l yX11_drawAhead cX11_drawAhead 2 none 2 y [.ref a0] M (f_X11_drawAhead y a0 M) := by
  refine C0_of hG (by decide) [some (.ref a0), none] rfl rfl (fun out h x Q C R => ?_)
  unfold f_X11_drawAhead at h
  refine g_aload_n C tb_X11_drawAhead_0_ok (i := 0) rfl rfl ?_
  obtain ⟨k1, h⟩ := gK_e h
  obtain ⟨n2, h⟩ := gN_e h
  refine g_getR C tb_X11_drawAhead_0_ok (i := 1) rfl fl_X11_66 rfl k1 n2 ?_
  refine g_iconstv C tb_X11_drawAhead_0_ok (i := 2) 5 rfl k_iconstv_5 ?_
  obtain ⟨k3, h⟩ := gK_e h
  obtain ⟨r4, M5, er4, h⟩ := c0_e h
  refine g_callV0 C tb_X11_drawAhead_0_ok (i := 3) [.int (5 : Int32)] rfl mw_X3_draw mv_X3_draw ml_X11_360 k3 rfl rfl rfl rfl (w_X3_draw C.G y (y.2.1 a0 7) (5 : Int32) M) er4 rfl rfl rfl ?_
  obtain ⟨j7, ej7, h⟩ := jn_e h
  have J123 : ∀ (M6 : Mem), j7 M6 = some out → GG g x 2 Q 0 0 y M6 123 [none, none] [] := by
    intro M6 h; subst ej7
    cases h
    exact g_vret0 C R tb_X11_drawAhead_1_ok (i := 3) rfl
  obtain ⟨t8, f9⟩ := br_e h
  by_cases hsw : r4 < (0 : Int32) ∨ (2 : Int32) < r4
  · have h := t8 hsw
    refine g_tableOut C tb_X11_drawAhead_0_ok (i := 4) 0 2 123 rfl hsw (by decide) rfl ?_
    exact g_less (L' := [none, none]) trivial (J123 M5 h)
  have h := f9 hsw
  obtain ⟨t19, f20⟩ := br_e h
  by_cases hs1000 : r4 = (0 : Int32)
  · have h := t19 hs1000
    refine g_tableIn C tb_X11_drawAhead_0_ok (i := 4) 0 36 28 rfl hs1000 (by decide) rfl ?_
    refine g_aload_n C tb_X11_drawAhead_0_ok (i := 5) rfl rfl ?_
    obtain ⟨n10, h⟩ := gN_e h
    refine g_getR C tb_X11_drawAhead_0_ok (i := 6) rfl fl_X11_47 rfl k1 n10 ?_
    refine g_aload_n C tb_X11_drawAhead_0_ok (i := 7) rfl rfl ?_
    refine g_getR C tb_X11_drawAhead_0_ok (i := 8) rfl fl_X11_66 rfl k1 n2 ?_
    refine g_aload_n C tb_X11_drawAhead_0_ok (i := 9) rfl rfl ?_
    obtain ⟨n11, h⟩ := gN_e h
    refine g_getR C tb_X11_drawAhead_0_ok (i := 10) rfl fl_X11_19 rfl k1 n11 ?_
    obtain ⟨k12, h⟩ := gK_e h
    obtain ⟨r13, er13, h⟩ := cp_e h
    refine g_callV0 C tb_X11_drawAhead_0_ok (i := 11) [] rfl mw_X1_cells mv_X1_cells ml_X11_128 k12 rfl rfl rfl rfl (w_X1_cells C.G y (y.2.1 a0 1) M5) (pm_s er13) rfl rfl rfl ?_
    obtain ⟨r14, M15, er14, h⟩ := c0_e h
    refine g_callV0 C tb_X11_drawAhead_0_ok (i := 12) [.int r13] rfl mw_X3_draw mv_X3_draw ml_X11_360 k3 rfl rfl rfl rfl (w_X3_draw C.G y (y.2.1 a0 7) r13 M5) er14 rfl rfl rfl ?_
    refine g_bipushv C tb_X11_drawAhead_0_ok (i := 13) 20 rfl k_bipushv_20 ?_
    obtain ⟨k16, h⟩ := gK_e h
    obtain ⟨r17, M18, er17, h⟩ := c0_e h
    refine g_callV0 C tb_X11_drawAhead_0_ok (i := 14) [.int r14, .int (20 : Int32)] rfl mw_X8_addBlue mv_X8_addBlue ml_X11_363 k16 rfl rfl rfl rfl (w_X8_addBlue C.G y (y.2.1 a0 5) r14 (20 : Int32) M15) er17 rfl rfl rfl ?_
    refine g_goto C tb_X11_drawAhead_0_ok (i := 15) 123 rfl rfl ?_
    exact g_less (L' := [none, none]) trivial (J123 M18 h)
  have h := f20 hs1000
  obtain ⟨t34, f35⟩ := br_e h
  by_cases hs1001 : r4 = (1 : Int32)
  · have h := t34 hs1001
    refine g_tableIn C tb_X11_drawAhead_0_ok (i := 4) 1 62 54 rfl hs1001 (by decide) rfl ?_
    refine g_aload_n C tb_X11_drawAhead_0_ok (i := 16) rfl rfl ?_
    obtain ⟨n21, h⟩ := gN_e h
    refine g_getR C tb_X11_drawAhead_0_ok (i := 17) rfl fl_X11_19 rfl k1 n21 ?_
    obtain ⟨k22, h⟩ := gK_e h
    refine g_getI C tb_X11_drawAhead_0_ok (i := 18) rfl fl_X11_134 rfl k22 ?_
    obtain ⟨t23, f24⟩ := br_e h
    refine g_if_le C tb_X11_drawAhead_0_ok (i := 19) 123 rfl rfl (fun c => ?_) (fun c => ?_)
    · have h := t23 c
      exact g_less (L' := [none, none]) trivial (J123 M5 h)
    · have h := f24 c
      refine g_aload_n C tb_X11_drawAhead_0_ok (i := 20) rfl rfl ?_
      refine g_getR C tb_X11_drawAhead_0_ok (i := 21) rfl fl_X11_66 rfl k1 n2 ?_
      refine g_aload_n C tb_X11_drawAhead_0_ok (i := 22) rfl rfl ?_
      refine g_getR C tb_X11_drawAhead_0_ok (i := 23) rfl fl_X11_19 rfl k1 n21 ?_
      refine g_getI C tb_X11_drawAhead_0_ok (i := 24) rfl fl_X11_134 rfl k22 ?_
      obtain ⟨r25, M26, er25, h⟩ := c0_e h
      refine g_callV0 C tb_X11_drawAhead_0_ok (i := 25) [.int (M5.1 (y.2.1 a0 1) 4)] rfl mw_X3_draw mv_X3_draw ml_X11_360 k3 rfl rfl rfl rfl (w_X3_draw C.G y (y.2.1 a0 7) (M5.1 (y.2.1 a0 1) 4) M5) er25 rfl rfl rfl ?_
      refine g_istore_n C tb_X11_drawAhead_0_ok (i := 26) rfl rfl rfl ?_
      refine g_aload_n C tb_X11_drawAhead_0_ok (i := 27) rfl rfl ?_
      obtain ⟨n27, h⟩ := gN_e h
      refine g_getR C tb_X11_drawAhead_0_ok (i := 28) rfl fl_X11_47 rfl k1 n27 ?_
      refine g_iload_n C tb_X11_drawAhead_0_ok (i := 29) rfl rfl ?_
      refine g_aload_n C tb_X11_drawAhead_0_ok (i := 30) rfl rfl ?_
      refine g_getR C tb_X11_drawAhead_0_ok (i := 31) rfl fl_X11_66 rfl k1 n2 ?_
      refine g_aload_n C tb_X11_drawAhead_0_ok (i := 32) rfl rfl ?_
      refine g_getR C tb_X11_drawAhead_0_ok (i := 33) rfl fl_X11_19 rfl k1 n21 ?_
      obtain ⟨r28, er28, h⟩ := cp_e h
      refine g_callV0 C tb_X11_drawAhead_0_ok (i := 34) [] rfl mw_X1_cells mv_X1_cells ml_X11_128 k22 rfl rfl rfl rfl (w_X1_cells C.G y (y.2.1 a0 1) M26) (pm_s er28) rfl rfl rfl ?_
      obtain ⟨r29, M30, er29, h⟩ := c0_e h
      refine g_callV0 C tb_X11_drawAhead_0_ok (i := 35) [.int r28] rfl mw_X3_draw mv_X3_draw ml_X11_360 k3 rfl rfl rfl rfl (w_X3_draw C.G y (y.2.1 a0 7) r28 M26) er29 rfl rfl rfl ?_
      obtain ⟨k31, h⟩ := gK_e h
      obtain ⟨r32, M33, er32, h⟩ := c0_e h
      refine g_callV0 C tb_X11_drawAhead_0_ok (i := 36) [.int r25, .int r29] rfl mw_X8_setSpot mv_X8_setSpot ml_X11_231 k31 rfl rfl rfl rfl (w_X8_setSpot C.G y (y.2.1 a0 5) r25 r29 M30) er32 rfl rfl rfl ?_
      refine g_goto C tb_X11_drawAhead_0_ok (i := 37) 123 rfl rfl ?_
      exact g_less (L' := [none, none]) trivial (J123 M33 h)
  have h := f35 hs1001
  have hlast : r4 = (2 : Int32) := i32_sw (l := [(0 : Int32), (1 : Int32)]) (n := 2) hsw (by decide +kernel) (i32_ne [(0 : Int32), (1 : Int32)] rfl (by intro c hc; simp only [List.mem_cons, List.not_mem_nil, or_false] at hc; rcases hc with rfl | rfl <;> assumption))
  refine g_tableIn C tb_X11_drawAhead_0_ok (i := 4) 2 112 104 rfl hlast (by decide) rfl ?_
  refine g_aload_n C tb_X11_drawAhead_0_ok (i := 38) rfl rfl ?_
  obtain ⟨n36, h⟩ := gN_e h
  refine g_getR C tb_X11_drawAhead_0_ok (i := 39) rfl fl_X11_47 rfl k1 n36 ?_
  refine g_iconstv C tb_X11_drawAhead_1_ok (i := 0) 5 rfl k_iconstv_5 ?_
  obtain ⟨k37, h⟩ := gK_e h
  obtain ⟨r38, M39, er38, h⟩ := c0_e h
  refine g_callV0 C tb_X11_drawAhead_1_ok (i := 1) [.int (5 : Int32)] rfl mw_X8_addKnobs mv_X8_addKnobs ml_X11_235 k37 rfl rfl rfl rfl (w_X8_addKnobs C.G y (y.2.1 a0 5) (5 : Int32) M5) er38 rfl rfl rfl ?_
  refine g_goto C tb_X11_drawAhead_1_ok (i := 2) 123 rfl rfl ?_
  exact g_less (L' := [none, none]) trivial (J123 M39 h)
def f_X11_skies (y : Lay) (a0 : Nat) (a1 : Int32) (a2 : Int32) (a3 : Int32) (M : Mem) : Option (Nat × Int32 × Mem) := gK y a0 (0, 11) (cx (f_X11_needWhat y a0 a3 (2 : Int32) M) fun (r2 : Int32) (M3 : Mem) => cx (f_X11_needWithin y a0 a2 (0 : Int32) (40 : Int32) M3) fun (r4 : Int32) (M5 : Mem) => c0 (f_X11_lookAhead y a0 (0 : Int32) M5) fun (r6 : Int32) (M7 : Mem) => gN (y.2.1 a0 7) (gK y (y.2.1 a0 7) (0, 3) (lt (wI M7 (y.2.1 a0 7) 0 a1) fun (M10 : Mem) => fixN (fun _ _ => none) (fun (s13 : Int32 → Mem → Option (Nat × Int32 × Mem)) (v11 : Int32) (M12 : Mem) => br (a2 ≤ v11) (br (a3 = (0 : Int32)) (gN (y.2.1 a0 5) (gK y (y.2.1 a0 5) (0, 8) (gN (y.2.1 a0 3) (gK y (y.2.1 a0 3) (0, 4) (gN (y.2.1 (y.2.1 a0 3) 0) (gK y (y.2.1 (y.2.1 a0 3) 0) (0, 8) (some (0, ((M12.1 (y.2.1 a0 5) 10) - (M12.1 (y.2.1 (y.2.1 a0 3) 0) 10)), M12)))))))) (br (a3 = (1 : Int32)) (gN (y.2.1 a0 5) (gK y (y.2.1 a0 5) (0, 8) (cp (f_X8_allBlue y (y.2.1 a0 5) M12) fun (r27 : Int32) => some (0, r27, M12)))) (gN (y.2.1 a0 5) (gK y (y.2.1 a0 5) (0, 8) (some (0, (M12.1 (y.2.1 a0 5) 9), M12)))))) (c0 (f_X11_drawAhead y a0 M12) fun (r32 : Int32) (M33 : Mem) => gN (y.2.1 a0 5) (gK y (y.2.1 a0 5) (0, 8) (c0 (f_X8_passDay y (y.2.1 a0 5) M33) fun (r36 : Int32) (M37 : Mem) => lt (v11 + (1 : Int32)) fun (v38 : Int32) => s13 v38 M37)))) FUEL (0 : Int32) M10)))
theorem w_X11_skies {g : GX} {l : Launch} (hG : GF g l) (y : Lay) (a0 : Nat) (a1 : Int32) (a2 : Int32) (a3 : Int32) (M : Mem) : C1 g l yX11_skies cX11_skies 5 (some .int) 6 2 12 y [.ref a0, .int a1, .int a2, .int a3] M (f_X11_skies y a0 a1 a2 a3 M) := by
  refine C1_of hG (by decide) [some (.ref a0), some (.int a1), some (.int a2), some (.int a3), none] rfl rfl (fun out h x Q C R => ?_)
  unfold f_X11_skies at h
  refine g_aload_n C tb_X11_skies_0_ok (i := 0) rfl rfl ?_
  refine g_iload_n C tb_X11_skies_0_ok (i := 1) rfl rfl ?_
  refine g_iconstv C tb_X11_skies_0_ok (i := 2) 2 rfl k_iconstv_2 ?_
  obtain ⟨k1, h⟩ := gK_e h
  refine g_callV1 C tb_X11_skies_0_ok (i := 3) R [.int a3, .int (2 : Int32)] rfl mw_X11_needWhat mv_X11_needWhat ml_X11_255 k1 rfl rfl rfl rfl (w_X11_needWhat C.G y a0 a3 (2 : Int32) M) h rfl rfl rfl (fun r2 M3 h => ?_)
  refine g_aload_n C tb_X11_skies_0_ok (i := 4) rfl rfl ?_
  refine g_iload_n C tb_X11_skies_0_ok (i := 5) rfl rfl ?_
  refine g_iconstv C tb_X11_skies_0_ok (i := 6) 0 rfl k_iconstv_0 ?_
  refine g_bipushv C tb_X11_skies_0_ok (i := 7) 40 rfl k_bipushv_40 ?_
  refine g_callV1 C tb_X11_skies_0_ok (i := 8) R [.int a2, .int (0 : Int32), .int (40 : Int32)] rfl mw_X11_needWithin mv_X11_needWithin ml_X11_248 k1 rfl rfl rfl rfl (w_X11_needWithin C.G y a0 a2 (0 : Int32) (40 : Int32) M3) h rfl rfl rfl (fun r4 M5 h => ?_)
  refine g_aload_n C tb_X11_skies_0_ok (i := 9) rfl rfl ?_
  refine g_iconstv C tb_X11_skies_0_ok (i := 10) 0 rfl k_iconstv_0 ?_
  obtain ⟨r6, M7, er6, h⟩ := c0_e h
  refine g_callV0 C tb_X11_skies_0_ok (i := 11) [.int (0 : Int32)] rfl mw_X11_lookAhead mv_X11_lookAhead ml_X11_252 k1 rfl rfl rfl rfl (w_X11_lookAhead C.G y a0 (0 : Int32) M5) er6 rfl rfl rfl ?_
  refine g_aload_n C tb_X11_skies_0_ok (i := 12) rfl rfl ?_
  obtain ⟨n8, h⟩ := gN_e h
  refine g_getR C tb_X11_skies_0_ok (i := 13) rfl fl_X11_66 rfl k1 n8 ?_
  refine g_iload_n C tb_X11_skies_0_ok (i := 14) rfl rfl ?_
  obtain ⟨k9, h⟩ := gK_e h
  refine g_putI C tb_X11_skies_0_ok (i := 15) rfl fl_X11_334 ft_3_0 rfl k9 ?_
  refine g_mem (fun M10 eM10 => ?_)
  have h := lt_e eM10 h
  refine g_iconstv C tb_X11_skies_0_ok (i := 16) 0 rfl k_iconstv_0 ?_
  refine g_istore C tb_X11_skies_0_ok (i := 17) rfl rfl rfl ?_
  refine g_less (L' := [some (.ref a0), none, some (.int a2), some (.int a3), some (.int (0 : Int32))]) ⟨rfl, ⟨rfl, ⟨rfl, ⟨rfl, trivial⟩⟩⟩⟩ ?_
  refine fix_i (P := fun (f : Int32 → Mem → Option (Nat × Int32 × Mem)) => ∀ (v11 : Int32) (M12 : Mem), f v11 M12 = some out → GG g x 5 Q 2 12 y M12 30 [some (.ref a0), none, some (.int a2), some (.int a3), some (.int v11)] []) ?_ ?_ _ (0 : Int32) M10 h
  · intro v11 M12 h; exact (nn_e h).elim
  · intro s13 ih14 v11 M12 h
    refine g_iload C tb_X11_skies_0_ok (i := 18) rfl rfl ?_
    refine g_iload_n C tb_X11_skies_0_ok (i := 19) rfl rfl ?_
    obtain ⟨t15, f16⟩ := br_e h
    refine g_icmp_ge C tb_X11_skies_0_ok (i := 20) 53 rfl rfl (fun c => ?_) (fun c => ?_)
    · have h := t15 c
      refine g_iload_n C tb_X11_skies_0_ok (i := 28) rfl rfl ?_
      obtain ⟨t23, f24⟩ := br_e h
      by_cases hs1000 : a3 = (0 : Int32)
      · have h := t23 hs1000
        refine g_lookup C tb_X11_skies_0_ok (i := 29) 80 26 rfl (by decide) (by rw [hs1000]; decide) rfl ?_
        refine g_aload_n C tb_X11_skies_0_ok (i := 30) rfl rfl ?_
        obtain ⟨n17, h⟩ := gN_e h
        refine g_getR C tb_X11_skies_0_ok (i := 31) rfl fl_X11_47 rfl k1 n17 ?_
        obtain ⟨k18, h⟩ := gK_e h
        refine g_getI C tb_X11_skies_0_ok (i := 32) rfl fl_X11_149 rfl k18 ?_
        refine g_aload_n C tb_X11_skies_0_ok (i := 33) rfl rfl ?_
        obtain ⟨n19, h⟩ := gN_e h
        refine g_getR C tb_X11_skies_0_ok (i := 34) rfl fl_X11_37 rfl k1 n19 ?_
        obtain ⟨k20, h⟩ := gK_e h
        obtain ⟨n21, h⟩ := gN_e h
        refine g_getR C tb_X11_skies_0_ok (i := 35) rfl fl_X11_53 rfl k20 n21 ?_
        obtain ⟨k22, h⟩ := gK_e h
        refine g_getI C tb_X11_skies_0_ok (i := 36) rfl fl_X11_149 rfl k22 ?_
        refine g_isub C tb_X11_skies_0_ok (i := 37) rfl ?_
        cases h
        exact g_iret1 C R rfl rfl tb_X11_skies_0_ok (i := 38) rfl
      have h := f24 hs1000
      obtain ⟨t28, f29⟩ := br_e h
      by_cases hs1001 : a3 = (1 : Int32)
      · have h := t28 hs1001
        refine g_lookup C tb_X11_skies_0_ok (i := 29) 99 45 rfl (by decide) (by rw [hs1001]; decide) rfl ?_
        refine g_aload_n C tb_X11_skies_0_ok (i := 39) rfl rfl ?_
        obtain ⟨n25, h⟩ := gN_e h
        refine g_getR C tb_X11_skies_1_ok (i := 0) rfl fl_X11_47 rfl k1 n25 ?_
        obtain ⟨k26, h⟩ := gK_e h
        obtain ⟨r27, er27, h⟩ := cp_e h
        refine g_callV0 C tb_X11_skies_1_ok (i := 1) [] rfl mw_X8_allBlue mv_X8_allBlue ml_X11_158 k26 rfl rfl rfl rfl (w_X8_allBlue C.G y (y.2.1 a0 5) M12) (pm_s er27) rfl rfl rfl ?_
        cases h
        exact g_iret1 C R rfl rfl tb_X11_skies_1_ok (i := 2) rfl
      have h := f29 hs1001
      refine g_lookup C tb_X11_skies_0_ok (i := 29) 107 53 rfl (by decide) (lk_df (by simp only [List.forall_mem_cons, List.not_mem_nil, false_implies, implies_true, and_true]; exact ⟨fun e => hs1000 (Int32.toInt_inj.mp e.symm), fun e => hs1001 (Int32.toInt_inj.mp e.symm)⟩)) rfl ?_
      refine g_aload_n C tb_X11_skies_1_ok (i := 3) rfl rfl ?_
      obtain ⟨n30, h⟩ := gN_e h
      refine g_getR C tb_X11_skies_1_ok (i := 4) rfl fl_X11_47 rfl k1 n30 ?_
      obtain ⟨k31, h⟩ := gK_e h
      refine g_getI C tb_X11_skies_1_ok (i := 5) rfl fl_X11_140 rfl k31 ?_
      cases h
      exact g_iret1 C R rfl rfl tb_X11_skies_1_ok (i := 6) rfl
    · have h := f16 c
      refine g_aload_n C tb_X11_skies_0_ok (i := 21) rfl rfl ?_
      obtain ⟨r32, M33, er32, h⟩ := c0_e h
      refine g_callV0 C tb_X11_skies_0_ok (i := 22) [] rfl mw_X11_drawAhead mv_X11_drawAhead ml_X11_337 k1 rfl rfl rfl rfl (w_X11_drawAhead C.G y a0 M12) er32 rfl rfl rfl ?_
      refine g_aload_n C tb_X11_skies_0_ok (i := 23) rfl rfl ?_
      obtain ⟨n34, h⟩ := gN_e h
      refine g_getR C tb_X11_skies_0_ok (i := 24) rfl fl_X11_47 rfl k1 n34 ?_
      obtain ⟨k35, h⟩ := gK_e h
      obtain ⟨r36, M37, er36, h⟩ := c0_e h
      refine g_callV0 C tb_X11_skies_0_ok (i := 25) [] rfl mw_X8_passDay mv_X8_passDay ml_X11_221 k35 rfl rfl rfl rfl (w_X8_passDay C.G y (y.2.1 a0 5) M33) er36 rfl rfl rfl ?_
      obtain ⟨v38, ev38⟩ : ∃ w : Int32, w = v11 + (1 : Int32) := ⟨_, rfl⟩
      have h := lt_e ev38 h
      refine g_iincv C tb_X11_skies_0_ok (i := 26) (1 : Int32) ev38 rfl rfl k_iconstv_1 rfl rfl ?_
      refine g_goto C tb_X11_skies_0_ok (i := 27) 30 rfl rfl ?_
      exact g_less (L' := [some (.ref a0), none, some (.int a2), some (.int a3), some (.int v38)]) ⟨rfl, ⟨rfl, ⟨rfl, ⟨rfl, trivial⟩⟩⟩⟩ (ih14 v38 M37 h)
def f_X12_begin (y : Lay) (a0 : Nat) (a1 : Int32) (M : Mem) : Option (Int32 × Mem) := gK y a0 (0, 12) (gN (y.2.1 a0 5) (gA y (y.2.1 a0 5) 1 a1 (lt (wI M (y.2.1 a0 5) a1.toNatClampNeg (3 : Int32)) fun (M4 : Mem) => gA y (y.2.1 a0 5) 1 (a1 + (1 : Int32)) (lt (wI M4 (y.2.1 a0 5) (a1 + (1 : Int32)).toNatClampNeg (3 : Int32)) fun (M6 : Mem) => gA y (y.2.1 a0 5) 1 (a1 + (2 : Int32)) (lt (wI M6 (y.2.1 a0 5) (a1 + (2 : Int32)).toNatClampNeg (0 : Int32)) fun (M8 : Mem) => gA y (y.2.1 a0 5) 1 (a1 + (3 : Int32)) (lt (wI M8 (y.2.1 a0 5) (a1 + (3 : Int32)).toNatClampNeg (20 : Int32)) fun (M10 : Mem) => gA y (y.2.1 a0 5) 1 (a1 + (4 : Int32)) (lt (wI M10 (y.2.1 a0 5) (a1 + (4 : Int32)).toNatClampNeg (2 : Int32)) fun (M12 : Mem) => gA y (y.2.1 a0 5) 1 (a1 + (5 : Int32)) (lt (wI M12 (y.2.1 a0 5) (a1 + (5 : Int32)).toNatClampNeg (60 : Int32)) fun (M14 : Mem) => fixN (fun _ _ => none) (fun (s17 : Int32 → Mem → Option (Int32 × Mem)) (v15 : Int32) (M16 : Mem) => br ((9 : Int32) ≤ v15) (some (0, M16)) (gA y (y.2.1 a0 5) 1 (a1 + v15) (lt (wI M16 (y.2.1 a0 5) (a1 + v15).toNatClampNeg (0 : Int32)) fun (M22 : Mem) => lt (v15 + (1 : Int32)) fun (v23 : Int32) => s17 v23 M22))) FUEL (6 : Int32) M14))))))))
theorem w_X12_begin {g : GX} {l : Launch} (hG : GF g l) (y : Lay) (a0 : Nat) (a1 : Int32) (M : Mem) : C0 g l yX12_begin cX12_begin 3 none 0 y [.ref a0, .int a1] M (f_X12_begin y a0 a1 M) := by
  refine C0_of hG (by decide) [some (.ref a0), some (.int a1), none] rfl rfl (fun out h x Q C R => ?_)
  unfold f_X12_begin at h
  refine g_aload_n C tb_X12_begin_0_ok (i := 0) rfl rfl ?_
  obtain ⟨k1, h⟩ := gK_e h
  obtain ⟨n2, h⟩ := gN_e h
  refine g_getR C tb_X12_begin_0_ok (i := 1) rfl fl_X12_40 rfl k1 n2 ?_
  refine g_iload_n C tb_X12_begin_0_ok (i := 2) rfl rfl ?_
  refine g_iconstv C tb_X12_begin_0_ok (i := 3) 3 rfl k_iconstv_3 ?_
  obtain ⟨b3, h⟩ := gA_e h
  refine g_iast C tb_X12_begin_0_ok (i := 4) rfl b3 ?_
  refine g_mem (fun M4 eM4 => ?_)
  have h := lt_e eM4 h
  refine g_aload_n C tb_X12_begin_0_ok (i := 5) rfl rfl ?_
  refine g_getR C tb_X12_begin_0_ok (i := 6) rfl fl_X12_40 rfl k1 n2 ?_
  refine g_iload_n C tb_X12_begin_0_ok (i := 7) rfl rfl ?_
  refine g_iconstv C tb_X12_begin_0_ok (i := 8) 1 rfl k_iconstv_1 ?_
  refine g_iadd C tb_X12_begin_0_ok (i := 9) rfl ?_
  refine g_iconstv C tb_X12_begin_0_ok (i := 10) 3 rfl k_iconstv_3 ?_
  obtain ⟨b5, h⟩ := gA_e h
  refine g_iast C tb_X12_begin_0_ok (i := 11) rfl b5 ?_
  refine g_mem (fun M6 eM6 => ?_)
  have h := lt_e eM6 h
  refine g_aload_n C tb_X12_begin_0_ok (i := 12) rfl rfl ?_
  refine g_getR C tb_X12_begin_0_ok (i := 13) rfl fl_X12_40 rfl k1 n2 ?_
  refine g_iload_n C tb_X12_begin_0_ok (i := 14) rfl rfl ?_
  refine g_iconstv C tb_X12_begin_0_ok (i := 15) 2 rfl k_iconstv_2 ?_
  refine g_iadd C tb_X12_begin_0_ok (i := 16) rfl ?_
  refine g_iconstv C tb_X12_begin_0_ok (i := 17) 0 rfl k_iconstv_0 ?_
  obtain ⟨b7, h⟩ := gA_e h
  refine g_iast C tb_X12_begin_0_ok (i := 18) rfl b7 ?_
  refine g_mem (fun M8 eM8 => ?_)
  have h := lt_e eM8 h
  refine g_aload_n C tb_X12_begin_0_ok (i := 19) rfl rfl ?_
  refine g_getR C tb_X12_begin_0_ok (i := 20) rfl fl_X12_40 rfl k1 n2 ?_
  refine g_iload_n C tb_X12_begin_0_ok (i := 21) rfl rfl ?_
  refine g_iconstv C tb_X12_begin_0_ok (i := 22) 3 rfl k_iconstv_3 ?_
  refine g_iadd C tb_X12_begin_0_ok (i := 23) rfl ?_
  refine g_bipushv C tb_X12_begin_0_ok (i := 24) 20 rfl k_bipushv_20 ?_
  obtain ⟨b9, h⟩ := gA_e h
  refine g_iast C tb_X12_begin_0_ok (i := 25) rfl b9 ?_
  refine g_mem (fun M10 eM10 => ?_)
  have h := lt_e eM10 h
  refine g_aload_n C tb_X12_begin_0_ok (i := 26) rfl rfl ?_
  refine g_getR C tb_X12_begin_0_ok (i := 27) rfl fl_X12_40 rfl k1 n2 ?_
  refine g_iload_n C tb_X12_begin_0_ok (i := 28) rfl rfl ?_
  refine g_iconstv C tb_X12_begin_0_ok (i := 29) 4 rfl k_iconstv_4 ?_
  refine g_iadd C tb_X12_begin_0_ok (i := 30) rfl ?_
  refine g_iconstv C tb_X12_begin_0_ok (i := 31) 2 rfl k_iconstv_2 ?_
  obtain ⟨b11, h⟩ := gA_e h
  refine g_iast C tb_X12_begin_0_ok (i := 32) rfl b11 ?_
  refine g_mem (fun M12 eM12 => ?_)
  have h := lt_e eM12 h
  refine g_aload_n C tb_X12_begin_0_ok (i := 33) rfl rfl ?_
  refine g_getR C tb_X12_begin_0_ok (i := 34) rfl fl_X12_40 rfl k1 n2 ?_
  refine g_iload_n C tb_X12_begin_0_ok (i := 35) rfl rfl ?_
  refine g_iconstv C tb_X12_begin_0_ok (i := 36) 5 rfl k_iconstv_5 ?_
  refine g_iadd C tb_X12_begin_0_ok (i := 37) rfl ?_
  refine g_bipushv C tb_X12_begin_0_ok (i := 38) 60 rfl k_bipushv_60 ?_
  obtain ⟨b13, h⟩ := gA_e h
  refine g_iast C tb_X12_begin_0_ok (i := 39) rfl b13 ?_
  refine g_mem (fun M14 eM14 => ?_)
  have h := lt_e eM14 h
  refine g_bipushv C tb_X12_begin_1_ok (i := 0) 6 rfl k_bipushv_6 ?_
  refine g_istore_n C tb_X12_begin_1_ok (i := 1) rfl rfl rfl ?_
  refine g_less (L' := [some (.ref a0), some (.int a1), some (.int (6 : Int32))]) ⟨rfl, ⟨rfl, ⟨rfl, trivial⟩⟩⟩ ?_
  refine fix_i (P := fun (f : Int32 → Mem → Option (Int32 × Mem)) => ∀ (v15 : Int32) (M16 : Mem), f v15 M16 = some out → GG g x 3 Q 0 0 y M16 57 [some (.ref a0), some (.int a1), some (.int v15)] []) ?_ ?_ _ (6 : Int32) M14 h
  · intro v15 M16 h; exact (nn_e h).elim
  · intro s17 ih18 v15 M16 h
    refine g_iload_n C tb_X12_begin_1_ok (i := 2) rfl rfl ?_
    refine g_bipushv C tb_X12_begin_1_ok (i := 3) 9 rfl k_bipushv_9 ?_
    obtain ⟨t19, f20⟩ := br_e h
    refine g_icmp_ge C tb_X12_begin_1_ok (i := 4) 78 rfl rfl (fun c => ?_) (fun c => ?_)
    · have h := t19 c
      cases h
      exact g_vret0 C R tb_X12_begin_1_ok (i := 14) rfl
    · have h := f20 c
      refine g_aload_n C tb_X12_begin_1_ok (i := 5) rfl rfl ?_
      refine g_getR C tb_X12_begin_1_ok (i := 6) rfl fl_X12_40 rfl k1 n2 ?_
      refine g_iload_n C tb_X12_begin_1_ok (i := 7) rfl rfl ?_
      refine g_iload_n C tb_X12_begin_1_ok (i := 8) rfl rfl ?_
      refine g_iadd C tb_X12_begin_1_ok (i := 9) rfl ?_
      refine g_iconstv C tb_X12_begin_1_ok (i := 10) 0 rfl k_iconstv_0 ?_
      obtain ⟨b21, h⟩ := gA_e h
      refine g_iast C tb_X12_begin_1_ok (i := 11) rfl b21 ?_
      refine g_mem (fun M22 eM22 => ?_)
      have h := lt_e eM22 h
      obtain ⟨v23, ev23⟩ : ∃ w : Int32, w = v15 + (1 : Int32) := ⟨_, rfl⟩
      have h := lt_e ev23 h
      refine g_iincv C tb_X12_begin_1_ok (i := 12) (1 : Int32) ev23 rfl rfl k_iconstv_1 rfl rfl ?_
      refine g_goto C tb_X12_begin_1_ok (i := 13) 57 rfl rfl ?_
      exact g_less (L' := [some (.ref a0), some (.int a1), some (.int v23)]) ⟨rfl, ⟨rfl, ⟨rfl, trivial⟩⟩⟩ (ih18 v23 M22 h)
def f_X12_init (y : Lay) (a0 : Nat) (M : Mem) : Option (Lay × Mem) := gd (y.2.2 + 2 ≤ 1000) (lt (psh y (4, 2)) fun (y2 : Lay) => lt (zM M (y.2.2 + 1)) fun (M3 : Mem) => gA y2 (y.2.2 + 1) 4 (0 : Int32) (lt (wF y2 (y.2.2 + 1) (0 : Int32).toNatClampNeg 1019) fun (y5 : Lay) => gA y5 (y.2.2 + 1) 4 (1 : Int32) (lt (wF y5 (y.2.2 + 1) (1 : Int32).toNatClampNeg 1020) fun (y7 : Lay) => gK y7 a0 (0, 12) (gN (y.2.2 + 1) (lt (wF y7 a0 0 (y.2.2 + 1)) fun (y10 : Lay) => gd (y10.2.2 + 2 ≤ 1000) (lt (psh y10 (4, 6)) fun (y12 : Lay) => lt (zM M3 (y10.2.2 + 1)) fun (M13 : Mem) => gA y12 (y10.2.2 + 1) 4 (0 : Int32) (lt (wF y12 (y10.2.2 + 1) (0 : Int32).toNatClampNeg 1021) fun (y15 : Lay) => gA y15 (y10.2.2 + 1) 4 (1 : Int32) (lt (wF y15 (y10.2.2 + 1) (1 : Int32).toNatClampNeg 1022) fun (y17 : Lay) => gA y17 (y10.2.2 + 1) 4 (2 : Int32) (lt (wF y17 (y10.2.2 + 1) (2 : Int32).toNatClampNeg 1023) fun (y19 : Lay) => gA y19 (y10.2.2 + 1) 4 (3 : Int32) (lt (wF y19 (y10.2.2 + 1) (3 : Int32).toNatClampNeg 1024) fun (y21 : Lay) => gA y21 (y10.2.2 + 1) 4 (4 : Int32) (lt (wF y21 (y10.2.2 + 1) (4 : Int32).toNatClampNeg 1025) fun (y23 : Lay) => gA y23 (y10.2.2 + 1) 4 (5 : Int32) (lt (wF y23 (y10.2.2 + 1) (5 : Int32).toNatClampNeg 1026) fun (y25 : Lay) => gK y25 a0 (0, 12) (gN (y10.2.2 + 1) (lt (wF y25 a0 1 (y10.2.2 + 1)) fun (y28 : Lay) => gd (y28.2.2 + 2 ≤ 1000) (lt (psh y28 (4, 4)) fun (y30 : Lay) => lt (zM M13 (y28.2.2 + 1)) fun (M31 : Mem) => gA y30 (y28.2.2 + 1) 4 (0 : Int32) (lt (wF y30 (y28.2.2 + 1) (0 : Int32).toNatClampNeg 1021) fun (y33 : Lay) => gA y33 (y28.2.2 + 1) 4 (1 : Int32) (lt (wF y33 (y28.2.2 + 1) (1 : Int32).toNatClampNeg 1022) fun (y35 : Lay) => gA y35 (y28.2.2 + 1) 4 (2 : Int32) (lt (wF y35 (y28.2.2 + 1) (2 : Int32).toNatClampNeg 1023) fun (y37 : Lay) => gA y37 (y28.2.2 + 1) 4 (3 : Int32) (lt (wF y37 (y28.2.2 + 1) (3 : Int32).toNatClampNeg 1024) fun (y39 : Lay) => gK y39 a0 (0, 12) (gN (y28.2.2 + 1) (lt (wF y39 a0 2 (y28.2.2 + 1)) fun (y42 : Lay) => gK y42 a0 (0, 12) (gN (y42.2.1 a0 1) (lt (wR M31 a0 3 (y42.2.1 a0 1)) fun (M45 : Mem) => gd (y42.2.2 + 2 ≤ 1000) (lt (psh y42 (1, 18)) fun (y47 : Lay) => lt (zM M45 (y42.2.2 + 1)) fun (M48 : Mem) => gK y47 a0 (0, 12) (gN (y42.2.2 + 1) (lt (wF y47 a0 5 (y42.2.2 + 1)) fun (y51 : Lay) => gd (y51.2.2 + 2 ≤ 1000) (lt (psh y51 (1, 60)) fun (y53 : Lay) => lt (zM M48 (y51.2.2 + 1)) fun (M54 : Mem) => gK y53 a0 (0, 12) (gN (y51.2.2 + 1) (lt (wF y53 a0 6 (y51.2.2 + 1)) fun (y57 : Lay) => gd (y57.2.2 + 2 ≤ 1000) (lt (psh y57 (1, 12)) fun (y59 : Lay) => lt (zM M54 (y57.2.2 + 1)) fun (M60 : Mem) => gK y59 a0 (0, 12) (gN (y57.2.2 + 1) (lt (wF y59 a0 7 (y57.2.2 + 1)) fun (y63 : Lay) => gd (y63.2.2 + 2 ≤ 1000) (lt (psh y63 (1, 12)) fun (y65 : Lay) => lt (zM M60 (y63.2.2 + 1)) fun (M66 : Mem) => gK y65 a0 (0, 12) (gN (y63.2.2 + 1) (lt (wF y65 a0 8 (y63.2.2 + 1)) fun (y69 : Lay) => gd (y69.2.2 + 2 ≤ 1000) (lt (psh y69 (1, 12)) fun (y71 : Lay) => lt (zM M66 (y69.2.2 + 1)) fun (M72 : Mem) => gK y71 a0 (0, 12) (gN (y69.2.2 + 1) (lt (wF y71 a0 9 (y69.2.2 + 1)) fun (y75 : Lay) => gd (y75.2.2 + 2 ≤ 1000) (lt (psh y75 (1, 1400)) fun (y77 : Lay) => lt (zM M72 (y75.2.2 + 1)) fun (M78 : Mem) => gK y77 a0 (0, 12) (gN (y75.2.2 + 1) (lt (wF y77 a0 10 (y75.2.2 + 1)) fun (y81 : Lay) => gd (y81.2.2 + 2 ≤ 1000) (lt (psh y81 (1, 1400)) fun (y83 : Lay) => lt (zM M78 (y81.2.2 + 1)) fun (M84 : Mem) => gK y83 a0 (0, 12) (gN (y81.2.2 + 1) (lt (wF y83 a0 11 (y81.2.2 + 1)) fun (y87 : Lay) => gd (y87.2.2 + 2 ≤ 1000) (lt (psh y87 (1, 3)) fun (y89 : Lay) => lt (zM M84 (y87.2.2 + 1)) fun (M90 : Mem) => gK y89 a0 (0, 12) (gN (y87.2.2 + 1) (lt (wF y89 a0 12 (y87.2.2 + 1)) fun (y93 : Lay) => gd (y93.2.2 + 2 ≤ 1000) (lt (psh y93 (1, 6)) fun (y95 : Lay) => lt (zM M90 (y93.2.2 + 1)) fun (M96 : Mem) => gK y95 a0 (0, 12) (gN (y93.2.2 + 1) (lt (wF y95 a0 13 (y93.2.2 + 1)) fun (y99 : Lay) => gd (y99.2.2 + 2 ≤ 1000) (lt (psh y99 (1, 700)) fun (y101 : Lay) => lt (zM M96 (y99.2.2 + 1)) fun (M102 : Mem) => gK y101 a0 (0, 12) (gN (y99.2.2 + 1) (lt (wF y101 a0 14 (y99.2.2 + 1)) fun (y105 : Lay) => gK y105 a0 (0, 12) (lt (wI M102 a0 24 ((-1) : Int32)) fun (M107 : Mem) => gd (y105.2.2 + 2 ≤ 1000) (lt (psh y105 (1, 30)) fun (y109 : Lay) => lt (zM M107 (y105.2.2 + 1)) fun (M110 : Mem) => gK y109 a0 (0, 12) (gN (y105.2.2 + 1) (lt (wF y109 a0 28 (y105.2.2 + 1)) fun (y113 : Lay) => gd (y113.2.2 + 2 ≤ 1000) (lt (psh y113 (1, 6)) fun (y115 : Lay) => lt (zM M110 (y113.2.2 + 1)) fun (M116 : Mem) => gK y115 a0 (0, 12) (gN (y113.2.2 + 1) (lt (wF y115 a0 29 (y113.2.2 + 1)) fun (y119 : Lay) => gd (y119.2.2 + 2 ≤ 1000) (lt (psh y119 (1, 1640)) fun (y121 : Lay) => lt (zM M116 (y119.2.2 + 1)) fun (M122 : Mem) => gK y121 a0 (0, 12) (gN (y119.2.2 + 1) (lt (wF y121 a0 30 (y119.2.2 + 1)) fun (y125 : Lay) => gd (y125.2.2 + 2 ≤ 1000) (lt (psh y125 (1, 6)) fun (y127 : Lay) => lt (zM M122 (y125.2.2 + 1)) fun (M128 : Mem) => gK y127 a0 (0, 12) (gN (y125.2.2 + 1) (lt (wF y127 a0 38 (y125.2.2 + 1)) fun (y131 : Lay) => gd (y131.2.2 + 2 ≤ 1000) (lt (psh y131 (1, 64)) fun (y133 : Lay) => lt (zM M128 (y131.2.2 + 1)) fun (M134 : Mem) => gK y133 a0 (0, 12) (gN (y131.2.2 + 1) (lt (wF y133 a0 39 (y131.2.2 + 1)) fun (y137 : Lay) => gd (y137.2.2 + 2 ≤ 1000) (lt (psh y137 (1, 30)) fun (y139 : Lay) => lt (zM M134 (y137.2.2 + 1)) fun (M140 : Mem) => gK y139 a0 (0, 12) (gN (y137.2.2 + 1) (lt (wF y139 a0 40 (y137.2.2 + 1)) fun (y143 : Lay) => gd (y143.2.2 + 2 ≤ 1000) (lt (psh y143 (1, 41)) fun (y145 : Lay) => lt (zM M140 (y143.2.2 + 1)) fun (M146 : Mem) => gK y145 a0 (0, 12) (gN (y143.2.2 + 1) (lt (wF y145 a0 42 (y143.2.2 + 1)) fun (y149 : Lay) => gd (y149.2.2 + 2 ≤ 1000) (lt (psh y149 (1, 30)) fun (y151 : Lay) => lt (zM M146 (y149.2.2 + 1)) fun (M152 : Mem) => gK y151 a0 (0, 12) (gN (y149.2.2 + 1) (lt (wF y151 a0 43 (y149.2.2 + 1)) fun (y155 : Lay) => gd (y155.2.2 + 2 ≤ 1000) (lt (psh y155 (1, 448)) fun (y157 : Lay) => lt (zM M152 (y155.2.2 + 1)) fun (M158 : Mem) => gK y157 a0 (0, 12) (gN (y155.2.2 + 1) (lt (wF y157 a0 44 (y155.2.2 + 1)) fun (y161 : Lay) => gd (y161.2.2 + 2 ≤ 1000) (lt (psh y161 (1, 6)) fun (y163 : Lay) => lt (zM M158 (y161.2.2 + 1)) fun (M164 : Mem) => gK y163 a0 (0, 12) (gN (y161.2.2 + 1) (lt (wF y163 a0 45 (y161.2.2 + 1)) fun (y167 : Lay) => gd (y167.2.2 + 2 ≤ 1000) (lt (psh y167 (1, 8)) fun (y169 : Lay) => lt (zM M164 (y167.2.2 + 1)) fun (M170 : Mem) => gK y169 a0 (0, 12) (gN (y167.2.2 + 1) (lt (wF y169 a0 46 (y167.2.2 + 1)) fun (y173 : Lay) => gd (y173.2.2 + 2 ≤ 1000) (lt (psh y173 (1, 8)) fun (y175 : Lay) => lt (zM M170 (y173.2.2 + 1)) fun (M176 : Mem) => gK y175 a0 (0, 12) (gN (y173.2.2 + 1) (lt (wF y175 a0 47 (y173.2.2 + 1)) fun (y179 : Lay) => gd (y179.2.2 + 2 ≤ 1000) (lt (psh y179 (1, 8)) fun (y181 : Lay) => lt (zM M176 (y179.2.2 + 1)) fun (M182 : Mem) => gK y181 a0 (0, 12) (gN (y179.2.2 + 1) (lt (wF y181 a0 48 (y179.2.2 + 1)) fun (y185 : Lay) => gd (y185.2.2 + 2 ≤ 1000) (lt (psh y185 (1, 41)) fun (y187 : Lay) => lt (zM M182 (y185.2.2 + 1)) fun (M188 : Mem) => gK y187 a0 (0, 12) (gN (y185.2.2 + 1) (lt (wF y187 a0 49 (y185.2.2 + 1)) fun (y191 : Lay) => gd (y191.2.2 + 2 ≤ 1000) (lt (psh y191 (1, 60)) fun (y193 : Lay) => lt (zM M188 (y191.2.2 + 1)) fun (M194 : Mem) => gK y193 a0 (0, 12) (gN (y191.2.2 + 1) (lt (wF y193 a0 50 (y191.2.2 + 1)) fun (y197 : Lay) => gd (y197.2.2 + 2 ≤ 1000) (lt (psh y197 (1, 1800)) fun (y199 : Lay) => lt (zM M194 (y197.2.2 + 1)) fun (M200 : Mem) => gK y199 a0 (0, 12) (gN (y197.2.2 + 1) (lt (wF y199 a0 51 (y197.2.2 + 1)) fun (y203 : Lay) => gd (y203.2.2 + 2 ≤ 1000) (lt (psh y203 (1, 8)) fun (y205 : Lay) => lt (zM M200 (y203.2.2 + 1)) fun (M206 : Mem) => gK y205 a0 (0, 12) (gN (y203.2.2 + 1) (lt (wF y205 a0 53 (y203.2.2 + 1)) fun (y209 : Lay) => gd (y209.2.2 + 2 ≤ 1000) (lt (psh y209 (1, 41)) fun (y211 : Lay) => lt (zM M206 (y209.2.2 + 1)) fun (M212 : Mem) => gK y211 a0 (0, 12) (gN (y209.2.2 + 1) (lt (wF y211 a0 58 (y209.2.2 + 1)) fun (y215 : Lay) => gd (y215.2.2 + 2 ≤ 1000) (lt (psh y215 (1, 1640)) fun (y217 : Lay) => lt (zM M212 (y215.2.2 + 1)) fun (M218 : Mem) => gK y217 a0 (0, 12) (gN (y215.2.2 + 1) (lt (wF y217 a0 59 (y215.2.2 + 1)) fun (y221 : Lay) => gd (y221.2.2 + 2 ≤ 1000) (lt (psh y221 (1, 8)) fun (y223 : Lay) => lt (zM M218 (y221.2.2 + 1)) fun (M224 : Mem) => gK y223 a0 (0, 12) (gN (y221.2.2 + 1) (lt (wF y223 a0 60 (y221.2.2 + 1)) fun (y227 : Lay) => gd (y227.2.2 + 2 ≤ 1000) (lt (psh y227 (1, 8)) fun (y229 : Lay) => lt (zM M224 (y227.2.2 + 1)) fun (M230 : Mem) => gK y229 a0 (0, 12) (gN (y227.2.2 + 1) (lt (wF y229 a0 61 (y227.2.2 + 1)) fun (y233 : Lay) => gd (y233.2.2 + 2 ≤ 1000) (lt (psh y233 (1, 8)) fun (y235 : Lay) => lt (zM M230 (y233.2.2 + 1)) fun (M236 : Mem) => gK y235 a0 (0, 12) (gN (y233.2.2 + 1) (lt (wF y235 a0 62 (y233.2.2 + 1)) fun (y239 : Lay) => gd (y239.2.2 + 2 ≤ 1000) (lt (psh y239 (1, 3)) fun (y241 : Lay) => lt (zM M236 (y239.2.2 + 1)) fun (M242 : Mem) => gK y241 a0 (0, 12) (gN (y239.2.2 + 1) (lt (wF y241 a0 63 (y239.2.2 + 1)) fun (y245 : Lay) => gK y245 a0 (0, 12) (c0 (f_X12_begin y245 a0 (0 : Int32) M242) fun (r247 : Int32) (M248 : Mem) => lt (wI M248 a0 32 (20 : Int32)) fun (M249 : Mem) => some (y245, M249)))))))))))))))))))))))))))))))))))))))))))))))))))))))))))))))))))))))))))))))))))))))))))))))))))))))))))))))))))))))))))))
theorem w_X12_init {g : GX} {l : Launch} (hG : GF g l) (y : Lay) (a0 : Nat) (M : Mem) : CIt g l yX12_init cX12_init 1 1 36 9577 y [.ref a0] M (f_X12_init y a0 M) := by
  refine CI_of hG (by decide) rfl [some (.ref a0)] rfl rfl (fun out h x Q C R hz => ?_)
  have hz0 := hz
  unfold f_X12_init at h
  refine g_aload_n C tb_X12_init_0_ok (i := 0) rfl rfl ?_
  refine g_objI C tb_X12_init_0_ok (i := 1) rfl oi_X12_3 obj_w rfl ?_
  refine g_aload_n C tb_X12_init_0_ok (i := 2) rfl rfl ?_
  refine g_iconstv C tb_X12_init_0_ok (i := 3) 2 rfl k_iconstv_2 ?_
  obtain ⟨g1, h⟩ := gd_e h
  refine g_newaS C tb_X12_init_0_ok (i := 4) (N := 2) hz rfl ck_X12_9 aov (by decide) (by decide) rfl g1 rfl rfl (fun hz => ?_)
  refine g_nm (fun y2 ey2 M3 eM3 => ?_)
  have h := lt_e eM3 (lt_e ey2 h)
  rw [← ey2] at hz
  refine g_dup C tb_X12_init_0_ok (i := 5) rfl rfl ?_
  refine g_iconstv C tb_X12_init_0_ok (i := 6) 0 rfl k_iconstv_0 ?_
  refine g_ldcS C tb_X12_init_0_ok (i := 7) (k := 19) rfl rfl rfl (by decide) ?_
  obtain ⟨b4, h⟩ := gA_e h
  refine g_astS C tb_X12_init_0_ok (i := 8) (k := 19) rfl (by decide) b4 ?_
  refine g_nmy (fun y5 ey5 => ?_)
  have h := lt_e ey5 h
  have hz : HZ g x _ y5 := by rw [ey5]; exact hz
  refine g_dup C tb_X12_init_0_ok (i := 9) rfl rfl ?_
  refine g_iconstv C tb_X12_init_0_ok (i := 10) 1 rfl k_iconstv_1 ?_
  refine g_ldcS C tb_X12_init_0_ok (i := 11) (k := 20) rfl rfl rfl (by decide) ?_
  obtain ⟨b6, h⟩ := gA_e h
  refine g_astS C tb_X12_init_0_ok (i := 12) (k := 20) rfl (by decide) b6 ?_
  refine g_nmy (fun y7 ey7 => ?_)
  have h := lt_e ey7 h
  have hz : HZ g x _ y7 := by rw [ey7]; exact hz
  obtain ⟨k8, h⟩ := gK_e h
  obtain ⟨n9, h⟩ := gN_e h
  refine g_putF C tb_X12_init_0_ok R (i := 13) rfl ff_X12_15 ft_12_0 (Or.inr ⟨_, rfl⟩) rfl n9 k8 ?_
  refine g_nmy (fun y10 ey10 => ?_)
  have h := lt_e ey10 h
  have hz : HZ g x _ y10 := by rw [ey10]; exact hz
  refine g_aload_n C tb_X12_init_0_ok (i := 14) rfl rfl ?_
  refine g_bipushv C tb_X12_init_0_ok (i := 15) 6 rfl k_bipushv_6 ?_
  obtain ⟨g11, h⟩ := gd_e h
  refine g_newaS C tb_X12_init_0_ok (i := 16) (N := 6) hz rfl ck_X12_9 aov (by decide) (by decide) rfl g11 rfl rfl (fun hz => ?_)
  refine g_nm (fun y12 ey12 M13 eM13 => ?_)
  have h := lt_e eM13 (lt_e ey12 h)
  rw [← ey12] at hz
  refine g_dup C tb_X12_init_0_ok (i := 17) rfl rfl ?_
  refine g_iconstv C tb_X12_init_0_ok (i := 18) 0 rfl k_iconstv_0 ?_
  refine g_ldcS C tb_X12_init_0_ok (i := 19) (k := 21) rfl rfl rfl (by decide) ?_
  obtain ⟨b14, h⟩ := gA_e h
  refine g_astS C tb_X12_init_0_ok (i := 20) (k := 21) rfl (by decide) b14 ?_
  refine g_nmy (fun y15 ey15 => ?_)
  have h := lt_e ey15 h
  have hz : HZ g x _ y15 := by rw [ey15]; exact hz
  refine g_dup C tb_X12_init_0_ok (i := 21) rfl rfl ?_
  refine g_iconstv C tb_X12_init_0_ok (i := 22) 1 rfl k_iconstv_1 ?_
  refine g_ldcS C tb_X12_init_0_ok (i := 23) (k := 22) rfl rfl rfl (by decide) ?_
  obtain ⟨b16, h⟩ := gA_e h
  refine g_astS C tb_X12_init_0_ok (i := 24) (k := 22) rfl (by decide) b16 ?_
  refine g_nmy (fun y17 ey17 => ?_)
  have h := lt_e ey17 h
  have hz : HZ g x _ y17 := by rw [ey17]; exact hz
  refine g_dup C tb_X12_init_0_ok (i := 25) rfl rfl ?_
  refine g_iconstv C tb_X12_init_0_ok (i := 26) 2 rfl k_iconstv_2 ?_
  refine g_ldcS C tb_X12_init_0_ok (i := 27) (k := 23) rfl rfl rfl (by decide) ?_
  obtain ⟨b18, h⟩ := gA_e h
  refine g_astS C tb_X12_init_0_ok (i := 28) (k := 23) rfl (by decide) b18 ?_
  refine g_nmy (fun y19 ey19 => ?_)
  have h := lt_e ey19 h
  have hz : HZ g x _ y19 := by rw [ey19]; exact hz
  refine g_dup C tb_X12_init_0_ok (i := 29) rfl rfl ?_
  refine g_iconstv C tb_X12_init_0_ok (i := 30) 3 rfl k_iconstv_3 ?_
  refine g_ldcS C tb_X12_init_0_ok (i := 31) (k := 24) rfl rfl rfl (by decide) ?_
  obtain ⟨b20, h⟩ := gA_e h
  refine g_astS C tb_X12_init_0_ok (i := 32) (k := 24) rfl (by decide) b20 ?_
  refine g_nmy (fun y21 ey21 => ?_)
  have h := lt_e ey21 h
  have hz : HZ g x _ y21 := by rw [ey21]; exact hz
  refine g_dup C tb_X12_init_0_ok (i := 33) rfl rfl ?_
  refine g_iconstv C tb_X12_init_0_ok (i := 34) 4 rfl k_iconstv_4 ?_
  refine g_ldcS C tb_X12_init_0_ok (i := 35) (k := 25) rfl rfl rfl (by decide) ?_
  obtain ⟨b22, h⟩ := gA_e h
  refine g_astS C tb_X12_init_0_ok (i := 36) (k := 25) rfl (by decide) b22 ?_
  refine g_nmy (fun y23 ey23 => ?_)
  have h := lt_e ey23 h
  have hz : HZ g x _ y23 := by rw [ey23]; exact hz
  refine g_dup C tb_X12_init_0_ok (i := 37) rfl rfl ?_
  refine g_iconstv C tb_X12_init_0_ok (i := 38) 5 rfl k_iconstv_5 ?_
  refine g_ldcS C tb_X12_init_0_ok (i := 39) (k := 26) rfl rfl rfl (by decide) ?_
  obtain ⟨b24, h⟩ := gA_e h
  refine g_astS C tb_X12_init_1_ok (i := 0) (k := 26) rfl (by decide) b24 ?_
  refine g_nmy (fun y25 ey25 => ?_)
  have h := lt_e ey25 h
  have hz : HZ g x _ y25 := by rw [ey25]; exact hz
  obtain ⟨k26, h⟩ := gK_e h
  obtain ⟨n27, h⟩ := gN_e h
  refine g_putF C tb_X12_init_1_ok R (i := 1) rfl ff_X12_31 ft_12_1 (Or.inr ⟨_, rfl⟩) rfl n27 k26 ?_
  refine g_nmy (fun y28 ey28 => ?_)
  have h := lt_e ey28 h
  have hz : HZ g x _ y28 := by rw [ey28]; exact hz
  refine g_aload_n C tb_X12_init_1_ok (i := 2) rfl rfl ?_
  refine g_iconstv C tb_X12_init_1_ok (i := 3) 4 rfl k_iconstv_4 ?_
  obtain ⟨g29, h⟩ := gd_e h
  refine g_newaS C tb_X12_init_1_ok (i := 4) (N := 4) hz rfl ck_X12_9 aov (by decide) (by decide) rfl g29 rfl rfl (fun hz => ?_)
  refine g_nm (fun y30 ey30 M31 eM31 => ?_)
  have h := lt_e eM31 (lt_e ey30 h)
  rw [← ey30] at hz
  refine g_dup C tb_X12_init_1_ok (i := 5) rfl rfl ?_
  refine g_iconstv C tb_X12_init_1_ok (i := 6) 0 rfl k_iconstv_0 ?_
  refine g_ldcS C tb_X12_init_1_ok (i := 7) (k := 21) rfl rfl rfl (by decide) ?_
  obtain ⟨b32, h⟩ := gA_e h
  refine g_astS C tb_X12_init_1_ok (i := 8) (k := 21) rfl (by decide) b32 ?_
  refine g_nmy (fun y33 ey33 => ?_)
  have h := lt_e ey33 h
  have hz : HZ g x _ y33 := by rw [ey33]; exact hz
  refine g_dup C tb_X12_init_1_ok (i := 9) rfl rfl ?_
  refine g_iconstv C tb_X12_init_1_ok (i := 10) 1 rfl k_iconstv_1 ?_
  refine g_ldcS C tb_X12_init_1_ok (i := 11) (k := 22) rfl rfl rfl (by decide) ?_
  obtain ⟨b34, h⟩ := gA_e h
  refine g_astS C tb_X12_init_1_ok (i := 12) (k := 22) rfl (by decide) b34 ?_
  refine g_nmy (fun y35 ey35 => ?_)
  have h := lt_e ey35 h
  have hz : HZ g x _ y35 := by rw [ey35]; exact hz
  refine g_dup C tb_X12_init_1_ok (i := 13) rfl rfl ?_
  refine g_iconstv C tb_X12_init_1_ok (i := 14) 2 rfl k_iconstv_2 ?_
  refine g_ldcS C tb_X12_init_1_ok (i := 15) (k := 23) rfl rfl rfl (by decide) ?_
  obtain ⟨b36, h⟩ := gA_e h
  refine g_astS C tb_X12_init_1_ok (i := 16) (k := 23) rfl (by decide) b36 ?_
  refine g_nmy (fun y37 ey37 => ?_)
  have h := lt_e ey37 h
  have hz : HZ g x _ y37 := by rw [ey37]; exact hz
  refine g_dup C tb_X12_init_1_ok (i := 17) rfl rfl ?_
  refine g_iconstv C tb_X12_init_1_ok (i := 18) 3 rfl k_iconstv_3 ?_
  refine g_ldcS C tb_X12_init_1_ok (i := 19) (k := 24) rfl rfl rfl (by decide) ?_
  obtain ⟨b38, h⟩ := gA_e h
  refine g_astS C tb_X12_init_1_ok (i := 20) (k := 24) rfl (by decide) b38 ?_
  refine g_nmy (fun y39 ey39 => ?_)
  have h := lt_e ey39 h
  have hz : HZ g x _ y39 := by rw [ey39]; exact hz
  obtain ⟨k40, h⟩ := gK_e h
  obtain ⟨n41, h⟩ := gN_e h
  refine g_putF C tb_X12_init_1_ok R (i := 21) rfl ff_X12_34 ft_12_2 (Or.inr ⟨_, rfl⟩) rfl n41 k40 ?_
  refine g_nmy (fun y42 ey42 => ?_)
  have h := lt_e ey42 h
  have hz : HZ g x _ y42 := by rw [ey42]; exact hz
  refine g_aload_n C tb_X12_init_1_ok (i := 22) rfl rfl ?_
  refine g_aload_n C tb_X12_init_1_ok (i := 23) rfl rfl ?_
  obtain ⟨k43, h⟩ := gK_e h
  obtain ⟨n44, h⟩ := gN_e h
  refine g_getR C tb_X12_init_1_ok (i := 24) rfl fl_X12_31 rfl k43 n44 ?_
  refine g_putM C tb_X12_init_1_ok (i := 25) rfl fl_X12_37 ft_12_3 (Or.inr ⟨_, rfl⟩) rfl n44 k43 ?_
  refine g_mem (fun M45 eM45 => ?_)
  have h := lt_e eM45 h
  refine g_aload_n C tb_X12_init_1_ok (i := 26) rfl rfl ?_
  refine g_bipushv C tb_X12_init_1_ok (i := 27) 18 rfl k_bipushv_18 ?_
  obtain ⟨g46, h⟩ := gd_e h
  refine g_newaI C tb_X12_init_1_ok (i := 28) (N := 18) hz rfl acl_int (by decide) (by decide) rfl g46 rfl rfl (fun hz => ?_)
  refine g_nm (fun y47 ey47 M48 eM48 => ?_)
  have h := lt_e eM48 (lt_e ey47 h)
  rw [← ey47] at hz
  obtain ⟨k49, h⟩ := gK_e h
  obtain ⟨n50, h⟩ := gN_e h
  refine g_putF C tb_X12_init_1_ok R (i := 29) rfl ff_X12_40 ft_12_5 (Or.inr ⟨_, rfl⟩) rfl n50 k49 ?_
  refine g_nmy (fun y51 ey51 => ?_)
  have h := lt_e ey51 h
  have hz : HZ g x _ y51 := by rw [ey51]; exact hz
  refine g_aload_n C tb_X12_init_1_ok (i := 30) rfl rfl ?_
  refine g_bipushv C tb_X12_init_1_ok (i := 31) 60 rfl k_bipushv_60 ?_
  obtain ⟨g52, h⟩ := gd_e h
  refine g_newaI C tb_X12_init_1_ok (i := 32) (N := 60) hz rfl acl_int (by decide) (by decide) rfl g52 rfl rfl (fun hz => ?_)
  refine g_nm (fun y53 ey53 M54 eM54 => ?_)
  have h := lt_e eM54 (lt_e ey53 h)
  rw [← ey53] at hz
  obtain ⟨k55, h⟩ := gK_e h
  obtain ⟨n56, h⟩ := gN_e h
  refine g_putF C tb_X12_init_1_ok R (i := 33) rfl ff_X12_44 ft_12_6 (Or.inr ⟨_, rfl⟩) rfl n56 k55 ?_
  refine g_nmy (fun y57 ey57 => ?_)
  have h := lt_e ey57 h
  have hz : HZ g x _ y57 := by rw [ey57]; exact hz
  refine g_aload_n C tb_X12_init_1_ok (i := 34) rfl rfl ?_
  refine g_bipushv C tb_X12_init_1_ok (i := 35) 12 rfl k_bipushv_12 ?_
  obtain ⟨g58, h⟩ := gd_e h
  refine g_newaI C tb_X12_init_1_ok (i := 36) (N := 12) hz rfl acl_int (by decide) (by decide) rfl g58 rfl rfl (fun hz => ?_)
  refine g_nm (fun y59 ey59 M60 eM60 => ?_)
  have h := lt_e eM60 (lt_e ey59 h)
  rw [← ey59] at hz
  obtain ⟨k61, h⟩ := gK_e h
  obtain ⟨n62, h⟩ := gN_e h
  refine g_putF C tb_X12_init_1_ok R (i := 37) rfl ff_X12_47 ft_12_7 (Or.inr ⟨_, rfl⟩) rfl n62 k61 ?_
  refine g_nmy (fun y63 ey63 => ?_)
  have h := lt_e ey63 h
  have hz : HZ g x _ y63 := by rw [ey63]; exact hz
  refine g_aload_n C tb_X12_init_1_ok (i := 38) rfl rfl ?_
  refine g_bipushv C tb_X12_init_1_ok (i := 39) 12 rfl k_bipushv_12 ?_
  obtain ⟨g64, h⟩ := gd_e h
  refine g_newaI C tb_X12_init_2_ok (i := 0) (N := 12) hz rfl acl_int (by decide) (by decide) rfl g64 rfl rfl (fun hz => ?_)
  refine g_nm (fun y65 ey65 M66 eM66 => ?_)
  have h := lt_e eM66 (lt_e ey65 h)
  rw [← ey65] at hz
  obtain ⟨k67, h⟩ := gK_e h
  obtain ⟨n68, h⟩ := gN_e h
  refine g_putF C tb_X12_init_2_ok R (i := 1) rfl ff_X12_50 ft_12_8 (Or.inr ⟨_, rfl⟩) rfl n68 k67 ?_
  refine g_nmy (fun y69 ey69 => ?_)
  have h := lt_e ey69 h
  have hz : HZ g x _ y69 := by rw [ey69]; exact hz
  refine g_aload_n C tb_X12_init_2_ok (i := 2) rfl rfl ?_
  refine g_bipushv C tb_X12_init_2_ok (i := 3) 12 rfl k_bipushv_12 ?_
  obtain ⟨g70, h⟩ := gd_e h
  refine g_newaI C tb_X12_init_2_ok (i := 4) (N := 12) hz rfl acl_int (by decide) (by decide) rfl g70 rfl rfl (fun hz => ?_)
  refine g_nm (fun y71 ey71 M72 eM72 => ?_)
  have h := lt_e eM72 (lt_e ey71 h)
  rw [← ey71] at hz
  obtain ⟨k73, h⟩ := gK_e h
  obtain ⟨n74, h⟩ := gN_e h
  refine g_putF C tb_X12_init_2_ok R (i := 5) rfl ff_X12_53 ft_12_9 (Or.inr ⟨_, rfl⟩) rfl n74 k73 ?_
  refine g_nmy (fun y75 ey75 => ?_)
  have h := lt_e ey75 h
  have hz : HZ g x _ y75 := by rw [ey75]; exact hz
  refine g_aload_n C tb_X12_init_2_ok (i := 6) rfl rfl ?_
  refine g_sipushv C tb_X12_init_2_ok (i := 7) 1400 rfl k_sipushv_1400 ?_
  obtain ⟨g76, h⟩ := gd_e h
  refine g_newaI C tb_X12_init_2_ok (i := 8) (N := 1400) hz rfl acl_int (by decide) (by decide) rfl g76 rfl rfl (fun hz => ?_)
  refine g_nm (fun y77 ey77 M78 eM78 => ?_)
  have h := lt_e eM78 (lt_e ey77 h)
  rw [← ey77] at hz
  obtain ⟨k79, h⟩ := gK_e h
  obtain ⟨n80, h⟩ := gN_e h
  refine g_putF C tb_X12_init_2_ok R (i := 9) rfl ff_X12_56 ft_12_10 (Or.inr ⟨_, rfl⟩) rfl n80 k79 ?_
  refine g_nmy (fun y81 ey81 => ?_)
  have h := lt_e ey81 h
  have hz : HZ g x _ y81 := by rw [ey81]; exact hz
  refine g_aload_n C tb_X12_init_2_ok (i := 10) rfl rfl ?_
  refine g_sipushv C tb_X12_init_2_ok (i := 11) 1400 rfl k_sipushv_1400 ?_
  obtain ⟨g82, h⟩ := gd_e h
  refine g_newaI C tb_X12_init_2_ok (i := 12) (N := 1400) hz rfl acl_int (by decide) (by decide) rfl g82 rfl rfl (fun hz => ?_)
  refine g_nm (fun y83 ey83 M84 eM84 => ?_)
  have h := lt_e eM84 (lt_e ey83 h)
  rw [← ey83] at hz
  obtain ⟨k85, h⟩ := gK_e h
  obtain ⟨n86, h⟩ := gN_e h
  refine g_putF C tb_X12_init_2_ok R (i := 13) rfl ff_X12_59 ft_12_11 (Or.inr ⟨_, rfl⟩) rfl n86 k85 ?_
  refine g_nmy (fun y87 ey87 => ?_)
  have h := lt_e ey87 h
  have hz : HZ g x _ y87 := by rw [ey87]; exact hz
  refine g_aload_n C tb_X12_init_2_ok (i := 14) rfl rfl ?_
  refine g_iconstv C tb_X12_init_2_ok (i := 15) 3 rfl k_iconstv_3 ?_
  obtain ⟨g88, h⟩ := gd_e h
  refine g_newaI C tb_X12_init_2_ok (i := 16) (N := 3) hz rfl acl_int (by decide) (by decide) rfl g88 rfl rfl (fun hz => ?_)
  refine g_nm (fun y89 ey89 M90 eM90 => ?_)
  have h := lt_e eM90 (lt_e ey89 h)
  rw [← ey89] at hz
  obtain ⟨k91, h⟩ := gK_e h
  obtain ⟨n92, h⟩ := gN_e h
  refine g_putF C tb_X12_init_2_ok R (i := 17) rfl ff_X12_62 ft_12_12 (Or.inr ⟨_, rfl⟩) rfl n92 k91 ?_
  refine g_nmy (fun y93 ey93 => ?_)
  have h := lt_e ey93 h
  have hz : HZ g x _ y93 := by rw [ey93]; exact hz
  refine g_aload_n C tb_X12_init_2_ok (i := 18) rfl rfl ?_
  refine g_bipushv C tb_X12_init_2_ok (i := 19) 6 rfl k_bipushv_6 ?_
  obtain ⟨g94, h⟩ := gd_e h
  refine g_newaI C tb_X12_init_2_ok (i := 20) (N := 6) hz rfl acl_int (by decide) (by decide) rfl g94 rfl rfl (fun hz => ?_)
  refine g_nm (fun y95 ey95 M96 eM96 => ?_)
  have h := lt_e eM96 (lt_e ey95 h)
  rw [← ey95] at hz
  obtain ⟨k97, h⟩ := gK_e h
  obtain ⟨n98, h⟩ := gN_e h
  refine g_putF C tb_X12_init_2_ok R (i := 21) rfl ff_X12_65 ft_12_13 (Or.inr ⟨_, rfl⟩) rfl n98 k97 ?_
  refine g_nmy (fun y99 ey99 => ?_)
  have h := lt_e ey99 h
  have hz : HZ g x _ y99 := by rw [ey99]; exact hz
  refine g_aload_n C tb_X12_init_2_ok (i := 22) rfl rfl ?_
  refine g_sipushv C tb_X12_init_2_ok (i := 23) 700 rfl k_sipushv_700 ?_
  obtain ⟨g100, h⟩ := gd_e h
  refine g_newaI C tb_X12_init_2_ok (i := 24) (N := 700) hz rfl acl_int (by decide) (by decide) rfl g100 rfl rfl (fun hz => ?_)
  refine g_nm (fun y101 ey101 M102 eM102 => ?_)
  have h := lt_e eM102 (lt_e ey101 h)
  rw [← ey101] at hz
  obtain ⟨k103, h⟩ := gK_e h
  obtain ⟨n104, h⟩ := gN_e h
  refine g_putF C tb_X12_init_2_ok R (i := 25) rfl ff_X12_68 ft_12_14 (Or.inr ⟨_, rfl⟩) rfl n104 k103 ?_
  refine g_nmy (fun y105 ey105 => ?_)
  have h := lt_e ey105 h
  have hz : HZ g x _ y105 := by rw [ey105]; exact hz
  refine g_aload_n C tb_X12_init_2_ok (i := 26) rfl rfl ?_
  refine g_iconstv C tb_X12_init_2_ok (i := 27) (-1) rfl k_iconstv_m1 ?_
  obtain ⟨k106, h⟩ := gK_e h
  refine g_putI C tb_X12_init_2_ok (i := 28) rfl fl_X12_71 ft_12_24 rfl k106 ?_
  refine g_mem (fun M107 eM107 => ?_)
  have h := lt_e eM107 h
  refine g_aload_n C tb_X12_init_2_ok (i := 29) rfl rfl ?_
  refine g_bipushv C tb_X12_init_2_ok (i := 30) 30 rfl k_bipushv_30 ?_
  obtain ⟨g108, h⟩ := gd_e h
  refine g_newaI C tb_X12_init_2_ok (i := 31) (N := 30) hz rfl acl_int (by decide) (by decide) rfl g108 rfl rfl (fun hz => ?_)
  refine g_nm (fun y109 ey109 M110 eM110 => ?_)
  have h := lt_e eM110 (lt_e ey109 h)
  rw [← ey109] at hz
  obtain ⟨k111, h⟩ := gK_e h
  obtain ⟨n112, h⟩ := gN_e h
  refine g_putF C tb_X12_init_2_ok R (i := 32) rfl ff_X12_75 ft_12_28 (Or.inr ⟨_, rfl⟩) rfl n112 k111 ?_
  refine g_nmy (fun y113 ey113 => ?_)
  have h := lt_e ey113 h
  have hz : HZ g x _ y113 := by rw [ey113]; exact hz
  refine g_aload_n C tb_X12_init_2_ok (i := 33) rfl rfl ?_
  refine g_bipushv C tb_X12_init_2_ok (i := 34) 6 rfl k_bipushv_6 ?_
  obtain ⟨g114, h⟩ := gd_e h
  refine g_newaI C tb_X12_init_2_ok (i := 35) (N := 6) hz rfl acl_int (by decide) (by decide) rfl g114 rfl rfl (fun hz => ?_)
  refine g_nm (fun y115 ey115 M116 eM116 => ?_)
  have h := lt_e eM116 (lt_e ey115 h)
  rw [← ey115] at hz
  obtain ⟨k117, h⟩ := gK_e h
  obtain ⟨n118, h⟩ := gN_e h
  refine g_putF C tb_X12_init_2_ok R (i := 36) rfl ff_X12_77 ft_12_29 (Or.inr ⟨_, rfl⟩) rfl n118 k117 ?_
  refine g_nmy (fun y119 ey119 => ?_)
  have h := lt_e ey119 h
  have hz : HZ g x _ y119 := by rw [ey119]; exact hz
  refine g_aload_n C tb_X12_init_2_ok (i := 37) rfl rfl ?_
  refine g_sipushv C tb_X12_init_2_ok (i := 38) 1640 rfl k_sipushv_1640 ?_
  obtain ⟨g120, h⟩ := gd_e h
  refine g_newaI C tb_X12_init_2_ok (i := 39) (N := 1640) hz rfl acl_int (by decide) (by decide) rfl g120 rfl rfl (fun hz => ?_)
  refine g_nm (fun y121 ey121 M122 eM122 => ?_)
  have h := lt_e eM122 (lt_e ey121 h)
  rw [← ey121] at hz
  obtain ⟨k123, h⟩ := gK_e h
  obtain ⟨n124, h⟩ := gN_e h
  refine g_putF C tb_X12_init_3_ok R (i := 0) rfl ff_X12_80 ft_12_30 (Or.inr ⟨_, rfl⟩) rfl n124 k123 ?_
  refine g_nmy (fun y125 ey125 => ?_)
  have h := lt_e ey125 h
  have hz : HZ g x _ y125 := by rw [ey125]; exact hz
  refine g_aload_n C tb_X12_init_3_ok (i := 1) rfl rfl ?_
  refine g_bipushv C tb_X12_init_3_ok (i := 2) 6 rfl k_bipushv_6 ?_
  obtain ⟨g126, h⟩ := gd_e h
  refine g_newaI C tb_X12_init_3_ok (i := 3) (N := 6) hz rfl acl_int (by decide) (by decide) rfl g126 rfl rfl (fun hz => ?_)
  refine g_nm (fun y127 ey127 M128 eM128 => ?_)
  have h := lt_e eM128 (lt_e ey127 h)
  rw [← ey127] at hz
  obtain ⟨k129, h⟩ := gK_e h
  obtain ⟨n130, h⟩ := gN_e h
  refine g_putF C tb_X12_init_3_ok R (i := 4) rfl ff_X12_83 ft_12_38 (Or.inr ⟨_, rfl⟩) rfl n130 k129 ?_
  refine g_nmy (fun y131 ey131 => ?_)
  have h := lt_e ey131 h
  have hz : HZ g x _ y131 := by rw [ey131]; exact hz
  refine g_aload_n C tb_X12_init_3_ok (i := 5) rfl rfl ?_
  refine g_bipushv C tb_X12_init_3_ok (i := 6) 64 rfl k_bipushv_64 ?_
  obtain ⟨g132, h⟩ := gd_e h
  refine g_newaI C tb_X12_init_3_ok (i := 7) (N := 64) hz rfl acl_int (by decide) (by decide) rfl g132 rfl rfl (fun hz => ?_)
  refine g_nm (fun y133 ey133 M134 eM134 => ?_)
  have h := lt_e eM134 (lt_e ey133 h)
  rw [← ey133] at hz
  obtain ⟨k135, h⟩ := gK_e h
  obtain ⟨n136, h⟩ := gN_e h
  refine g_putF C tb_X12_init_3_ok R (i := 8) rfl ff_X12_86 ft_12_39 (Or.inr ⟨_, rfl⟩) rfl n136 k135 ?_
  refine g_nmy (fun y137 ey137 => ?_)
  have h := lt_e ey137 h
  have hz : HZ g x _ y137 := by rw [ey137]; exact hz
  refine g_aload_n C tb_X12_init_3_ok (i := 9) rfl rfl ?_
  refine g_bipushv C tb_X12_init_3_ok (i := 10) 30 rfl k_bipushv_30 ?_
  obtain ⟨g138, h⟩ := gd_e h
  refine g_newaI C tb_X12_init_3_ok (i := 11) (N := 30) hz rfl acl_int (by decide) (by decide) rfl g138 rfl rfl (fun hz => ?_)
  refine g_nm (fun y139 ey139 M140 eM140 => ?_)
  have h := lt_e eM140 (lt_e ey139 h)
  rw [← ey139] at hz
  obtain ⟨k141, h⟩ := gK_e h
  obtain ⟨n142, h⟩ := gN_e h
  refine g_putF C tb_X12_init_3_ok R (i := 12) rfl ff_X12_89 ft_12_40 (Or.inr ⟨_, rfl⟩) rfl n142 k141 ?_
  refine g_nmy (fun y143 ey143 => ?_)
  have h := lt_e ey143 h
  have hz : HZ g x _ y143 := by rw [ey143]; exact hz
  refine g_aload_n C tb_X12_init_3_ok (i := 13) rfl rfl ?_
  refine g_bipushv C tb_X12_init_3_ok (i := 14) 41 rfl k_bipushv_41 ?_
  obtain ⟨g144, h⟩ := gd_e h
  refine g_newaI C tb_X12_init_3_ok (i := 15) (N := 41) hz rfl acl_int (by decide) (by decide) rfl g144 rfl rfl (fun hz => ?_)
  refine g_nm (fun y145 ey145 M146 eM146 => ?_)
  have h := lt_e eM146 (lt_e ey145 h)
  rw [← ey145] at hz
  obtain ⟨k147, h⟩ := gK_e h
  obtain ⟨n148, h⟩ := gN_e h
  refine g_putF C tb_X12_init_3_ok R (i := 16) rfl ff_X12_92 ft_12_42 (Or.inr ⟨_, rfl⟩) rfl n148 k147 ?_
  refine g_nmy (fun y149 ey149 => ?_)
  have h := lt_e ey149 h
  have hz : HZ g x _ y149 := by rw [ey149]; exact hz
  refine g_aload_n C tb_X12_init_3_ok (i := 17) rfl rfl ?_
  refine g_bipushv C tb_X12_init_3_ok (i := 18) 30 rfl k_bipushv_30 ?_
  obtain ⟨g150, h⟩ := gd_e h
  refine g_newaI C tb_X12_init_3_ok (i := 19) (N := 30) hz rfl acl_int (by decide) (by decide) rfl g150 rfl rfl (fun hz => ?_)
  refine g_nm (fun y151 ey151 M152 eM152 => ?_)
  have h := lt_e eM152 (lt_e ey151 h)
  rw [← ey151] at hz
  obtain ⟨k153, h⟩ := gK_e h
  obtain ⟨n154, h⟩ := gN_e h
  refine g_putF C tb_X12_init_3_ok R (i := 20) rfl ff_X12_95 ft_12_43 (Or.inr ⟨_, rfl⟩) rfl n154 k153 ?_
  refine g_nmy (fun y155 ey155 => ?_)
  have h := lt_e ey155 h
  have hz : HZ g x _ y155 := by rw [ey155]; exact hz
  refine g_aload_n C tb_X12_init_3_ok (i := 21) rfl rfl ?_
  refine g_sipushv C tb_X12_init_3_ok (i := 22) 448 rfl k_sipushv_448 ?_
  obtain ⟨g156, h⟩ := gd_e h
  refine g_newaI C tb_X12_init_3_ok (i := 23) (N := 448) hz rfl acl_int (by decide) (by decide) rfl g156 rfl rfl (fun hz => ?_)
  refine g_nm (fun y157 ey157 M158 eM158 => ?_)
  have h := lt_e eM158 (lt_e ey157 h)
  rw [← ey157] at hz
  obtain ⟨k159, h⟩ := gK_e h
  obtain ⟨n160, h⟩ := gN_e h
  refine g_putF C tb_X12_init_3_ok R (i := 24) rfl ff_X12_98 ft_12_44 (Or.inr ⟨_, rfl⟩) rfl n160 k159 ?_
  refine g_nmy (fun y161 ey161 => ?_)
  have h := lt_e ey161 h
  have hz : HZ g x _ y161 := by rw [ey161]; exact hz
  refine g_aload_n C tb_X12_init_3_ok (i := 25) rfl rfl ?_
  refine g_bipushv C tb_X12_init_3_ok (i := 26) 6 rfl k_bipushv_6 ?_
  obtain ⟨g162, h⟩ := gd_e h
  refine g_newaI C tb_X12_init_3_ok (i := 27) (N := 6) hz rfl acl_int (by decide) (by decide) rfl g162 rfl rfl (fun hz => ?_)
  refine g_nm (fun y163 ey163 M164 eM164 => ?_)
  have h := lt_e eM164 (lt_e ey163 h)
  rw [← ey163] at hz
  obtain ⟨k165, h⟩ := gK_e h
  obtain ⟨n166, h⟩ := gN_e h
  refine g_putF C tb_X12_init_3_ok R (i := 28) rfl ff_X12_101 ft_12_45 (Or.inr ⟨_, rfl⟩) rfl n166 k165 ?_
  refine g_nmy (fun y167 ey167 => ?_)
  have h := lt_e ey167 h
  have hz : HZ g x _ y167 := by rw [ey167]; exact hz
  refine g_aload_n C tb_X12_init_3_ok (i := 29) rfl rfl ?_
  refine g_bipushv C tb_X12_init_3_ok (i := 30) 8 rfl k_bipushv_8 ?_
  obtain ⟨g168, h⟩ := gd_e h
  refine g_newaI C tb_X12_init_3_ok (i := 31) (N := 8) hz rfl acl_int (by decide) (by decide) rfl g168 rfl rfl (fun hz => ?_)
  refine g_nm (fun y169 ey169 M170 eM170 => ?_)
  have h := lt_e eM170 (lt_e ey169 h)
  rw [← ey169] at hz
  obtain ⟨k171, h⟩ := gK_e h
  obtain ⟨n172, h⟩ := gN_e h
  refine g_putF C tb_X12_init_3_ok R (i := 32) rfl ff_X12_104 ft_12_46 (Or.inr ⟨_, rfl⟩) rfl n172 k171 ?_
  refine g_nmy (fun y173 ey173 => ?_)
  have h := lt_e ey173 h
  have hz : HZ g x _ y173 := by rw [ey173]; exact hz
  refine g_aload_n C tb_X12_init_3_ok (i := 33) rfl rfl ?_
  refine g_bipushv C tb_X12_init_3_ok (i := 34) 8 rfl k_bipushv_8 ?_
  obtain ⟨g174, h⟩ := gd_e h
  refine g_newaI C tb_X12_init_3_ok (i := 35) (N := 8) hz rfl acl_int (by decide) (by decide) rfl g174 rfl rfl (fun hz => ?_)
  refine g_nm (fun y175 ey175 M176 eM176 => ?_)
  have h := lt_e eM176 (lt_e ey175 h)
  rw [← ey175] at hz
  obtain ⟨k177, h⟩ := gK_e h
  obtain ⟨n178, h⟩ := gN_e h
  refine g_putF C tb_X12_init_3_ok R (i := 36) rfl ff_X12_107 ft_12_47 (Or.inr ⟨_, rfl⟩) rfl n178 k177 ?_
  refine g_nmy (fun y179 ey179 => ?_)
  have h := lt_e ey179 h
  have hz : HZ g x _ y179 := by rw [ey179]; exact hz
  refine g_aload_n C tb_X12_init_3_ok (i := 37) rfl rfl ?_
  refine g_bipushv C tb_X12_init_3_ok (i := 38) 8 rfl k_bipushv_8 ?_
  obtain ⟨g180, h⟩ := gd_e h
  refine g_newaI C tb_X12_init_3_ok (i := 39) (N := 8) hz rfl acl_int (by decide) (by decide) rfl g180 rfl rfl (fun hz => ?_)
  refine g_nm (fun y181 ey181 M182 eM182 => ?_)
  have h := lt_e eM182 (lt_e ey181 h)
  rw [← ey181] at hz
  obtain ⟨k183, h⟩ := gK_e h
  obtain ⟨n184, h⟩ := gN_e h
  refine g_putF C tb_X12_init_4_ok R (i := 0) rfl ff_X12_110 ft_12_48 (Or.inr ⟨_, rfl⟩) rfl n184 k183 ?_
  refine g_nmy (fun y185 ey185 => ?_)
  have h := lt_e ey185 h
  have hz : HZ g x _ y185 := by rw [ey185]; exact hz
  refine g_aload_n C tb_X12_init_4_ok (i := 1) rfl rfl ?_
  refine g_bipushv C tb_X12_init_4_ok (i := 2) 41 rfl k_bipushv_41 ?_
  obtain ⟨g186, h⟩ := gd_e h
  refine g_newaI C tb_X12_init_4_ok (i := 3) (N := 41) hz rfl acl_int (by decide) (by decide) rfl g186 rfl rfl (fun hz => ?_)
  refine g_nm (fun y187 ey187 M188 eM188 => ?_)
  have h := lt_e eM188 (lt_e ey187 h)
  rw [← ey187] at hz
  obtain ⟨k189, h⟩ := gK_e h
  obtain ⟨n190, h⟩ := gN_e h
  refine g_putF C tb_X12_init_4_ok R (i := 4) rfl ff_X12_113 ft_12_49 (Or.inr ⟨_, rfl⟩) rfl n190 k189 ?_
  refine g_nmy (fun y191 ey191 => ?_)
  have h := lt_e ey191 h
  have hz : HZ g x _ y191 := by rw [ey191]; exact hz
  refine g_aload_n C tb_X12_init_4_ok (i := 5) rfl rfl ?_
  refine g_bipushv C tb_X12_init_4_ok (i := 6) 60 rfl k_bipushv_60 ?_
  obtain ⟨g192, h⟩ := gd_e h
  refine g_newaI C tb_X12_init_4_ok (i := 7) (N := 60) hz rfl acl_int (by decide) (by decide) rfl g192 rfl rfl (fun hz => ?_)
  refine g_nm (fun y193 ey193 M194 eM194 => ?_)
  have h := lt_e eM194 (lt_e ey193 h)
  rw [← ey193] at hz
  obtain ⟨k195, h⟩ := gK_e h
  obtain ⟨n196, h⟩ := gN_e h
  refine g_putF C tb_X12_init_4_ok R (i := 8) rfl ff_X12_116 ft_12_50 (Or.inr ⟨_, rfl⟩) rfl n196 k195 ?_
  refine g_nmy (fun y197 ey197 => ?_)
  have h := lt_e ey197 h
  have hz : HZ g x _ y197 := by rw [ey197]; exact hz
  refine g_aload_n C tb_X12_init_4_ok (i := 9) rfl rfl ?_
  refine g_sipushv C tb_X12_init_4_ok (i := 10) 1800 rfl k_sipushv_1800 ?_
  obtain ⟨g198, h⟩ := gd_e h
  refine g_newaI C tb_X12_init_4_ok (i := 11) (N := 1800) hz rfl acl_int (by decide) (by decide) rfl g198 rfl rfl (fun hz => ?_)
  refine g_nm (fun y199 ey199 M200 eM200 => ?_)
  have h := lt_e eM200 (lt_e ey199 h)
  rw [← ey199] at hz
  obtain ⟨k201, h⟩ := gK_e h
  obtain ⟨n202, h⟩ := gN_e h
  refine g_putF C tb_X12_init_4_ok R (i := 12) rfl ff_X12_119 ft_12_51 (Or.inr ⟨_, rfl⟩) rfl n202 k201 ?_
  refine g_nmy (fun y203 ey203 => ?_)
  have h := lt_e ey203 h
  have hz : HZ g x _ y203 := by rw [ey203]; exact hz
  refine g_aload_n C tb_X12_init_4_ok (i := 13) rfl rfl ?_
  refine g_bipushv C tb_X12_init_4_ok (i := 14) 8 rfl k_bipushv_8 ?_
  obtain ⟨g204, h⟩ := gd_e h
  refine g_newaI C tb_X12_init_4_ok (i := 15) (N := 8) hz rfl acl_int (by decide) (by decide) rfl g204 rfl rfl (fun hz => ?_)
  refine g_nm (fun y205 ey205 M206 eM206 => ?_)
  have h := lt_e eM206 (lt_e ey205 h)
  rw [← ey205] at hz
  obtain ⟨k207, h⟩ := gK_e h
  obtain ⟨n208, h⟩ := gN_e h
  refine g_putF C tb_X12_init_4_ok R (i := 16) rfl ff_X12_122 ft_12_53 (Or.inr ⟨_, rfl⟩) rfl n208 k207 ?_
  refine g_nmy (fun y209 ey209 => ?_)
  have h := lt_e ey209 h
  have hz : HZ g x _ y209 := by rw [ey209]; exact hz
  refine g_aload_n C tb_X12_init_4_ok (i := 17) rfl rfl ?_
  refine g_bipushv C tb_X12_init_4_ok (i := 18) 41 rfl k_bipushv_41 ?_
  obtain ⟨g210, h⟩ := gd_e h
  refine g_newaI C tb_X12_init_4_ok (i := 19) (N := 41) hz rfl acl_int (by decide) (by decide) rfl g210 rfl rfl (fun hz => ?_)
  refine g_nm (fun y211 ey211 M212 eM212 => ?_)
  have h := lt_e eM212 (lt_e ey211 h)
  rw [← ey211] at hz
  obtain ⟨k213, h⟩ := gK_e h
  obtain ⟨n214, h⟩ := gN_e h
  refine g_putF C tb_X12_init_4_ok R (i := 20) rfl ff_X12_125 ft_12_58 (Or.inr ⟨_, rfl⟩) rfl n214 k213 ?_
  refine g_nmy (fun y215 ey215 => ?_)
  have h := lt_e ey215 h
  have hz : HZ g x _ y215 := by rw [ey215]; exact hz
  refine g_aload_n C tb_X12_init_4_ok (i := 21) rfl rfl ?_
  refine g_sipushv C tb_X12_init_4_ok (i := 22) 1640 rfl k_sipushv_1640 ?_
  obtain ⟨g216, h⟩ := gd_e h
  refine g_newaI C tb_X12_init_4_ok (i := 23) (N := 1640) hz rfl acl_int (by decide) (by decide) rfl g216 rfl rfl (fun hz => ?_)
  refine g_nm (fun y217 ey217 M218 eM218 => ?_)
  have h := lt_e eM218 (lt_e ey217 h)
  rw [← ey217] at hz
  obtain ⟨k219, h⟩ := gK_e h
  obtain ⟨n220, h⟩ := gN_e h
  refine g_putF C tb_X12_init_4_ok R (i := 24) rfl ff_X12_128 ft_12_59 (Or.inr ⟨_, rfl⟩) rfl n220 k219 ?_
  refine g_nmy (fun y221 ey221 => ?_)
  have h := lt_e ey221 h
  have hz : HZ g x _ y221 := by rw [ey221]; exact hz
  refine g_aload_n C tb_X12_init_4_ok (i := 25) rfl rfl ?_
  refine g_bipushv C tb_X12_init_4_ok (i := 26) 8 rfl k_bipushv_8 ?_
  obtain ⟨g222, h⟩ := gd_e h
  refine g_newaI C tb_X12_init_4_ok (i := 27) (N := 8) hz rfl acl_int (by decide) (by decide) rfl g222 rfl rfl (fun hz => ?_)
  refine g_nm (fun y223 ey223 M224 eM224 => ?_)
  have h := lt_e eM224 (lt_e ey223 h)
  rw [← ey223] at hz
  obtain ⟨k225, h⟩ := gK_e h
  obtain ⟨n226, h⟩ := gN_e h
  refine g_putF C tb_X12_init_4_ok R (i := 28) rfl ff_X12_131 ft_12_60 (Or.inr ⟨_, rfl⟩) rfl n226 k225 ?_
  refine g_nmy (fun y227 ey227 => ?_)
  have h := lt_e ey227 h
  have hz : HZ g x _ y227 := by rw [ey227]; exact hz
  refine g_aload_n C tb_X12_init_4_ok (i := 29) rfl rfl ?_
  refine g_bipushv C tb_X12_init_4_ok (i := 30) 8 rfl k_bipushv_8 ?_
  obtain ⟨g228, h⟩ := gd_e h
  refine g_newaI C tb_X12_init_4_ok (i := 31) (N := 8) hz rfl acl_int (by decide) (by decide) rfl g228 rfl rfl (fun hz => ?_)
  refine g_nm (fun y229 ey229 M230 eM230 => ?_)
  have h := lt_e eM230 (lt_e ey229 h)
  rw [← ey229] at hz
  obtain ⟨k231, h⟩ := gK_e h
  obtain ⟨n232, h⟩ := gN_e h
  refine g_putF C tb_X12_init_4_ok R (i := 32) rfl ff_X12_134 ft_12_61 (Or.inr ⟨_, rfl⟩) rfl n232 k231 ?_
  refine g_nmy (fun y233 ey233 => ?_)
  have h := lt_e ey233 h
  have hz : HZ g x _ y233 := by rw [ey233]; exact hz
  refine g_aload_n C tb_X12_init_4_ok (i := 33) rfl rfl ?_
  refine g_bipushv C tb_X12_init_4_ok (i := 34) 8 rfl k_bipushv_8 ?_
  obtain ⟨g234, h⟩ := gd_e h
  refine g_newaI C tb_X12_init_4_ok (i := 35) (N := 8) hz rfl acl_int (by decide) (by decide) rfl g234 rfl rfl (fun hz => ?_)
  refine g_nm (fun y235 ey235 M236 eM236 => ?_)
  have h := lt_e eM236 (lt_e ey235 h)
  rw [← ey235] at hz
  obtain ⟨k237, h⟩ := gK_e h
  obtain ⟨n238, h⟩ := gN_e h
  refine g_putF C tb_X12_init_4_ok R (i := 36) rfl ff_X12_137 ft_12_62 (Or.inr ⟨_, rfl⟩) rfl n238 k237 ?_
  refine g_nmy (fun y239 ey239 => ?_)
  have h := lt_e ey239 h
  have hz : HZ g x _ y239 := by rw [ey239]; exact hz
  refine g_aload_n C tb_X12_init_4_ok (i := 37) rfl rfl ?_
  refine g_iconstv C tb_X12_init_4_ok (i := 38) 3 rfl k_iconstv_3 ?_
  obtain ⟨g240, h⟩ := gd_e h
  refine g_newaI C tb_X12_init_4_ok (i := 39) (N := 3) hz rfl acl_int (by decide) (by decide) rfl g240 rfl rfl (fun hz => ?_)
  refine g_nm (fun y241 ey241 M242 eM242 => ?_)
  have h := lt_e eM242 (lt_e ey241 h)
  rw [← ey241] at hz
  obtain ⟨k243, h⟩ := gK_e h
  obtain ⟨n244, h⟩ := gN_e h
  refine g_putF C tb_X12_init_5_ok R (i := 0) rfl ff_X12_140 ft_12_63 (Or.inr ⟨_, rfl⟩) rfl n244 k243 ?_
  refine g_nmy (fun y245 ey245 => ?_)
  have h := lt_e ey245 h
  have hz : HZ g x _ y245 := by rw [ey245]; exact hz
  refine g_aload_n C tb_X12_init_5_ok (i := 1) rfl rfl ?_
  refine g_iconstv C tb_X12_init_5_ok (i := 2) 0 rfl k_iconstv_0 ?_
  obtain ⟨k246, h⟩ := gK_e h
  obtain ⟨r247, M248, er247, h⟩ := c0_e h
  refine g_callV0 C tb_X12_init_5_ok (i := 3) [.int (0 : Int32)] rfl mw_X12_begin mv_X12_begin ml_X12_143 k246 rfl rfl rfl rfl (w_X12_begin C.G y245 a0 (0 : Int32) M242) er247 rfl rfl rfl ?_
  refine g_aload_n C tb_X12_init_5_ok (i := 4) rfl rfl ?_
  refine g_bipushv C tb_X12_init_5_ok (i := 5) 20 rfl k_bipushv_20 ?_
  refine g_putI C tb_X12_init_5_ok (i := 6) rfl fl_X12_147 ft_12_32 rfl k246 ?_
  refine g_mem (fun M249 eM249 => ?_)
  have h := lt_e eM249 h
  cases h
  exact g_vretI C R hz rfl (by have h8 : x.2.2.2.2.1.heap.size + 0 = bs g + y.2.2 := hz0; have h9 : x.2.2.2.2.1.heap.size + _ = bs g + _ := hz; omega) rfl tb_X12_init_5_ok (i := 7) rfl
end
