section
-- ===== PART A: goes FIRST, ahead of the names: the tables' words, and 'selects' of the private methods out of them =====
/-- a private method of a class that the tables say can be made, by its rows of tables_1 -/
def lw_okq (q : MethodName × Nat) : Prop := (q.1.cls ≠ "java/lang/invoke/MethodHandle" ∧ q.1.cls ≠ "java/lang/invoke/VarHandle") ∧ Cond.instantiable q.1.cls q.2 ∈ tables_1 ∧ Cond.privateMethod q.1 ∈ tables_1 ∧ Cond.instanceMethod q.1 ∈ tables_1
theorem lw_p0 : lw_okq (⟨"BlueBag$Coast", "bitsBeside", "(I)I"⟩, 9) := ⟨⟨by decide +kernel, by decide +kernel⟩, List.mem_of_getElem? (i := 51) (by decide +kernel), List.mem_of_getElem? (i := 86) (by decide +kernel), List.mem_of_getElem? (i := 87) (by decide +kernel)⟩
theorem lw_p1 : lw_okq (⟨"BlueBag", "refuseAct", "()I"⟩, 13) := ⟨⟨by decide +kernel, by decide +kernel⟩, List.mem_of_getElem? (i := 28) (by decide +kernel), List.mem_of_getElem? (i := 434) (by decide +kernel), List.mem_of_getElem? (i := 435) (by decide +kernel)⟩
theorem lw_p2 : lw_okq (⟨"BlueBag$Sky", "setValues", "(I)V"⟩, 13) := ⟨⟨by decide +kernel, by decide +kernel⟩, List.mem_of_getElem? (i := 151) (by decide +kernel), List.mem_of_getElem? (i := 486) (by decide +kernel), List.mem_of_getElem? (i := 487) (by decide +kernel)⟩
theorem lw_p3 : lw_okq (⟨"BlueBag$Sky", "drip", "(II)V"⟩, 13) := ⟨⟨by decide +kernel, by decide +kernel⟩, List.mem_of_getElem? (i := 151) (by decide +kernel), List.mem_of_getElem? (i := 527) (by decide +kernel), List.mem_of_getElem? (i := 528) (by decide +kernel)⟩
theorem lw_p4 : lw_okq (⟨"BlueBag$Sky", "markOverdone", "()V"⟩, 13) := ⟨⟨by decide +kernel, by decide +kernel⟩, List.mem_of_getElem? (i := 151) (by decide +kernel), List.mem_of_getElem? (i := 533) (by decide +kernel), List.mem_of_getElem? (i := 534) (by decide +kernel)⟩
theorem lw_p5 : lw_okq (⟨"BlueBag$Sky", "fade", "()V"⟩, 13) := ⟨⟨by decide +kernel, by decide +kernel⟩, List.mem_of_getElem? (i := 151) (by decide +kernel), List.mem_of_getElem? (i := 543) (by decide +kernel), List.mem_of_getElem? (i := 544) (by decide +kernel)⟩
theorem lw_p6 : lw_okq (⟨"BlueBag$Sky", "fadeOf", "(I)I"⟩, 13) := ⟨⟨by decide +kernel, by decide +kernel⟩, List.mem_of_getElem? (i := 151) (by decide +kernel), List.mem_of_getElem? (i := 547) (by decide +kernel), List.mem_of_getElem? (i := 548) (by decide +kernel)⟩
theorem lw_p7 : lw_okq (⟨"BlueBag", "lookAhead", "(I)V"⟩, 13) := ⟨⟨by decide +kernel, by decide +kernel⟩, List.mem_of_getElem? (i := 28) (by decide +kernel), List.mem_of_getElem? (i := 575) (by decide +kernel), List.mem_of_getElem? (i := 576) (by decide +kernel)⟩
theorem lw_p8 : lw_okq (⟨"BlueBag", "lookAheadIfResting", "(IZ)V"⟩, 13) := ⟨⟨by decide +kernel, by decide +kernel⟩, List.mem_of_getElem? (i := 28) (by decide +kernel), List.mem_of_getElem? (i := 608) (by decide +kernel), List.mem_of_getElem? (i := 609) (by decide +kernel)⟩
theorem lw_p9 : lw_okq (⟨"java/lang/Throwable", "fillInStackTrace", "(I)Ljava/lang/Throwable;"⟩, 6) := ⟨⟨by decide +kernel, by decide +kernel⟩, List.mem_of_getElem? (i := 683) (by decide +kernel), List.mem_of_getElem? (i := 681) (by decide +kernel), List.mem_of_getElem? (i := 682) (by decide +kernel)⟩
theorem lw_p10 : lw_okq (⟨"BlueBag$CoastReader", "readLine", "()Z"⟩, 7) := ⟨⟨by decide +kernel, by decide +kernel⟩, List.mem_of_getElem? (i := 143) (by decide +kernel), List.mem_of_getElem? (i := 735) (by decide +kernel), List.mem_of_getElem? (i := 736) (by decide +kernel)⟩
theorem lw_p11 : lw_okq (⟨"BlueBag$CoastReader", "readSky", "()Z"⟩, 7) := ⟨⟨by decide +kernel, by decide +kernel⟩, List.mem_of_getElem? (i := 143) (by decide +kernel), List.mem_of_getElem? (i := 792) (by decide +kernel), List.mem_of_getElem? (i := 793) (by decide +kernel)⟩
theorem lw_p12 : lw_okq (⟨"BlueBag$CoastReader", "passesOnce", "(I)Z"⟩, 7) := ⟨⟨by decide +kernel, by decide +kernel⟩, List.mem_of_getElem? (i := 143) (by decide +kernel), List.mem_of_getElem? (i := 800) (by decide +kernel), List.mem_of_getElem? (i := 801) (by decide +kernel)⟩
theorem lw_p13 : lw_okq (⟨"BlueBag$CoastReader", "readNumber", "(II)I"⟩, 7) := ⟨⟨by decide +kernel, by decide +kernel⟩, List.mem_of_getElem? (i := 143) (by decide +kernel), List.mem_of_getElem? (i := 805) (by decide +kernel), List.mem_of_getElem? (i := 806) (by decide +kernel)⟩
theorem lw_p14 : lw_okq (⟨"BlueBag$CoastReader", "refuseNumber", "(I)I"⟩, 7) := ⟨⟨by decide +kernel, by decide +kernel⟩, List.mem_of_getElem? (i := 143) (by decide +kernel), List.mem_of_getElem? (i := 809) (by decide +kernel), List.mem_of_getElem? (i := 810) (by decide +kernel)⟩
theorem lw_p15 : lw_okq (⟨"BlueBag$CoastReader", "readBlue", "()Z"⟩, 7) := ⟨⟨by decide +kernel, by decide +kernel⟩, List.mem_of_getElem? (i := 143) (by decide +kernel), List.mem_of_getElem? (i := 824) (by decide +kernel), List.mem_of_getElem? (i := 825) (by decide +kernel)⟩
def lw_privs_1 : List (MethodName × Nat) := [(⟨"BlueBag$Coast", "bitsBeside", "(I)I"⟩, 9), (⟨"BlueBag", "refuseAct", "()I"⟩, 13), (⟨"BlueBag$Sky", "setValues", "(I)V"⟩, 13), (⟨"BlueBag$Sky", "drip", "(II)V"⟩, 13), (⟨"BlueBag$Sky", "markOverdone", "()V"⟩, 13), (⟨"BlueBag$Sky", "fade", "()V"⟩, 13), (⟨"BlueBag$Sky", "fadeOf", "(I)I"⟩, 13), (⟨"BlueBag", "lookAhead", "(I)V"⟩, 13), (⟨"BlueBag", "lookAheadIfResting", "(IZ)V"⟩, 13), (⟨"java/lang/Throwable", "fillInStackTrace", "(I)Ljava/lang/Throwable;"⟩, 6), (⟨"BlueBag$CoastReader", "readLine", "()Z"⟩, 7), (⟨"BlueBag$CoastReader", "readSky", "()Z"⟩, 7), (⟨"BlueBag$CoastReader", "passesOnce", "(I)Z"⟩, 7), (⟨"BlueBag$CoastReader", "readNumber", "(II)I"⟩, 7), (⟨"BlueBag$CoastReader", "refuseNumber", "(I)I"⟩, 7), (⟨"BlueBag$CoastReader", "readBlue", "()Z"⟩, 7)]
theorem lw_r1 : ∀ q ∈ lw_privs_1, lw_okq q := List.forall_mem_cons.mpr ⟨lw_p0, List.forall_mem_cons.mpr ⟨lw_p1, List.forall_mem_cons.mpr ⟨lw_p2, List.forall_mem_cons.mpr ⟨lw_p3, List.forall_mem_cons.mpr ⟨lw_p4, List.forall_mem_cons.mpr ⟨lw_p5, List.forall_mem_cons.mpr ⟨lw_p6, List.forall_mem_cons.mpr ⟨lw_p7, List.forall_mem_cons.mpr ⟨lw_p8, List.forall_mem_cons.mpr ⟨lw_p9, List.forall_mem_cons.mpr ⟨lw_p10, List.forall_mem_cons.mpr ⟨lw_p11, List.forall_mem_cons.mpr ⟨lw_p12, List.forall_mem_cons.mpr ⟨lw_p13, List.forall_mem_cons.mpr ⟨lw_p14, List.forall_mem_cons.mpr ⟨lw_p15, fun _ h => absurd h List.not_mem_nil⟩⟩⟩⟩⟩⟩⟩⟩⟩⟩⟩⟩⟩⟩⟩⟩
theorem lw_p16 : lw_okq (⟨"BlueBag$CoastReader", "readCell", "(I)I"⟩, 7) := ⟨⟨by decide +kernel, by decide +kernel⟩, List.mem_of_getElem? (i := 143) (by decide +kernel), List.mem_of_getElem? (i := 828) (by decide +kernel), List.mem_of_getElem? (i := 829) (by decide +kernel)⟩
theorem lw_p17 : lw_okq (⟨"BlueBag$CoastReader", "readGirl", "(Z)Z"⟩, 7) := ⟨⟨by decide +kernel, by decide +kernel⟩, List.mem_of_getElem? (i := 143) (by decide +kernel), List.mem_of_getElem? (i := 835) (by decide +kernel), List.mem_of_getElem? (i := 836) (by decide +kernel)⟩
theorem lw_p18 : lw_okq (⟨"BlueBag$CoastReader", "readPegs", "()Z"⟩, 7) := ⟨⟨by decide +kernel, by decide +kernel⟩, List.mem_of_getElem? (i := 143) (by decide +kernel), List.mem_of_getElem? (i := 849) (by decide +kernel), List.mem_of_getElem? (i := 850) (by decide +kernel)⟩
theorem lw_p19 : lw_okq (⟨"BlueBag$CoastReader", "readKnobs", "()Z"⟩, 7) := ⟨⟨by decide +kernel, by decide +kernel⟩, List.mem_of_getElem? (i := 143) (by decide +kernel), List.mem_of_getElem? (i := 858) (by decide +kernel), List.mem_of_getElem? (i := 859) (by decide +kernel)⟩
theorem lw_p20 : lw_okq (⟨"BlueBag$CoastReader", "readRinse", "()Z"⟩, 7) := ⟨⟨by decide +kernel, by decide +kernel⟩, List.mem_of_getElem? (i := 143) (by decide +kernel), List.mem_of_getElem? (i := 863) (by decide +kernel), List.mem_of_getElem? (i := 864) (by decide +kernel)⟩
theorem lw_p21 : lw_okq (⟨"BlueBag$CoastReader", "readBound", "()Z"⟩, 7) := ⟨⟨by decide +kernel, by decide +kernel⟩, List.mem_of_getElem? (i := 143) (by decide +kernel), List.mem_of_getElem? (i := 868) (by decide +kernel), List.mem_of_getElem? (i := 869) (by decide +kernel)⟩
theorem lw_p22 : lw_okq (⟨"BlueBag$CoastReader", "readRule", "(ILBlueBag$Rule;)Z"⟩, 7) := ⟨⟨by decide +kernel, by decide +kernel⟩, List.mem_of_getElem? (i := 143) (by decide +kernel), List.mem_of_getElem? (i := 873) (by decide +kernel), List.mem_of_getElem? (i := 874) (by decide +kernel)⟩
theorem lw_p23 : lw_okq (⟨"BlueBag$RuleReader", "readExpr", "(I)Z"⟩, 3) := ⟨⟨by decide +kernel, by decide +kernel⟩, List.mem_of_getElem? (i := 247) (by decide +kernel), List.mem_of_getElem? (i := 882) (by decide +kernel), List.mem_of_getElem? (i := 883) (by decide +kernel)⟩
theorem lw_p24 : lw_okq (⟨"BlueBag$RuleReader", "readAnd", "(I)Z"⟩, 3) := ⟨⟨by decide +kernel, by decide +kernel⟩, List.mem_of_getElem? (i := 247) (by decide +kernel), List.mem_of_getElem? (i := 887) (by decide +kernel), List.mem_of_getElem? (i := 888) (by decide +kernel)⟩
theorem lw_p25 : lw_okq (⟨"BlueBag$RuleReader", "readNot", "(I)Z"⟩, 3) := ⟨⟨by decide +kernel, by decide +kernel⟩, List.mem_of_getElem? (i := 247) (by decide +kernel), List.mem_of_getElem? (i := 891) (by decide +kernel), List.mem_of_getElem? (i := 892) (by decide +kernel)⟩
theorem lw_p26 : lw_okq (⟨"BlueBag$RuleReader", "readTest", "(I)Z"⟩, 3) := ⟨⟨by decide +kernel, by decide +kernel⟩, List.mem_of_getElem? (i := 247) (by decide +kernel), List.mem_of_getElem? (i := 898) (by decide +kernel), List.mem_of_getElem? (i := 899) (by decide +kernel)⟩
theorem lw_p27 : lw_okq (⟨"BlueBag$RuleReader", "readSum", "(I)Z"⟩, 3) := ⟨⟨by decide +kernel, by decide +kernel⟩, List.mem_of_getElem? (i := 247) (by decide +kernel), List.mem_of_getElem? (i := 902) (by decide +kernel), List.mem_of_getElem? (i := 903) (by decide +kernel)⟩
theorem lw_p28 : lw_okq (⟨"BlueBag$RuleReader", "readProduct", "(I)Z"⟩, 3) := ⟨⟨by decide +kernel, by decide +kernel⟩, List.mem_of_getElem? (i := 247) (by decide +kernel), List.mem_of_getElem? (i := 906) (by decide +kernel), List.mem_of_getElem? (i := 907) (by decide +kernel)⟩
theorem lw_p29 : lw_okq (⟨"BlueBag$RuleReader", "readPart", "(I)Z"⟩, 3) := ⟨⟨by decide +kernel, by decide +kernel⟩, List.mem_of_getElem? (i := 247) (by decide +kernel), List.mem_of_getElem? (i := 910) (by decide +kernel), List.mem_of_getElem? (i := 911) (by decide +kernel)⟩
theorem lw_p30 : lw_okq (⟨"BlueBag$RuleReader", "valueHere", "()I"⟩, 3) := ⟨⟨by decide +kernel, by decide +kernel⟩, List.mem_of_getElem? (i := 247) (by decide +kernel), List.mem_of_getElem? (i := 919) (by decide +kernel), List.mem_of_getElem? (i := 920) (by decide +kernel)⟩
theorem lw_p31 : lw_okq (⟨"BlueBag", "needCell", "(I)V"⟩, 13) := ⟨⟨by decide +kernel, by decide +kernel⟩, List.mem_of_getElem? (i := 28) (by decide +kernel), List.mem_of_getElem? (i := 1003) (by decide +kernel), List.mem_of_getElem? (i := 1004) (by decide +kernel)⟩
def lw_privs_2 : List (MethodName × Nat) := [(⟨"BlueBag$CoastReader", "readCell", "(I)I"⟩, 7), (⟨"BlueBag$CoastReader", "readGirl", "(Z)Z"⟩, 7), (⟨"BlueBag$CoastReader", "readPegs", "()Z"⟩, 7), (⟨"BlueBag$CoastReader", "readKnobs", "()Z"⟩, 7), (⟨"BlueBag$CoastReader", "readRinse", "()Z"⟩, 7), (⟨"BlueBag$CoastReader", "readBound", "()Z"⟩, 7), (⟨"BlueBag$CoastReader", "readRule", "(ILBlueBag$Rule;)Z"⟩, 7), (⟨"BlueBag$RuleReader", "readExpr", "(I)Z"⟩, 3), (⟨"BlueBag$RuleReader", "readAnd", "(I)Z"⟩, 3), (⟨"BlueBag$RuleReader", "readNot", "(I)Z"⟩, 3), (⟨"BlueBag$RuleReader", "readTest", "(I)Z"⟩, 3), (⟨"BlueBag$RuleReader", "readSum", "(I)Z"⟩, 3), (⟨"BlueBag$RuleReader", "readProduct", "(I)Z"⟩, 3), (⟨"BlueBag$RuleReader", "readPart", "(I)Z"⟩, 3), (⟨"BlueBag$RuleReader", "valueHere", "()I"⟩, 3), (⟨"BlueBag", "needCell", "(I)V"⟩, 13)]
theorem lw_r2 : ∀ q ∈ lw_privs_2, lw_okq q := List.forall_mem_cons.mpr ⟨lw_p16, List.forall_mem_cons.mpr ⟨lw_p17, List.forall_mem_cons.mpr ⟨lw_p18, List.forall_mem_cons.mpr ⟨lw_p19, List.forall_mem_cons.mpr ⟨lw_p20, List.forall_mem_cons.mpr ⟨lw_p21, List.forall_mem_cons.mpr ⟨lw_p22, List.forall_mem_cons.mpr ⟨lw_p23, List.forall_mem_cons.mpr ⟨lw_p24, List.forall_mem_cons.mpr ⟨lw_p25, List.forall_mem_cons.mpr ⟨lw_p26, List.forall_mem_cons.mpr ⟨lw_p27, List.forall_mem_cons.mpr ⟨lw_p28, List.forall_mem_cons.mpr ⟨lw_p29, List.forall_mem_cons.mpr ⟨lw_p30, List.forall_mem_cons.mpr ⟨lw_p31, fun _ h => absurd h List.not_mem_nil⟩⟩⟩⟩⟩⟩⟩⟩⟩⟩⟩⟩⟩⟩⟩⟩
theorem lw_p32 : lw_okq (⟨"BlueBag$Sky", "besideWithin", "(II)I"⟩, 13) := ⟨⟨by decide +kernel, by decide +kernel⟩, List.mem_of_getElem? (i := 151) (by decide +kernel), List.mem_of_getElem? (i := 1017) (by decide +kernel), List.mem_of_getElem? (i := 1018) (by decide +kernel)⟩
theorem lw_p33 : lw_okq (⟨"BlueBag", "needGirl", "(I)V"⟩, 13) := ⟨⟨by decide +kernel, by decide +kernel⟩, List.mem_of_getElem? (i := 28) (by decide +kernel), List.mem_of_getElem? (i := 1031) (by decide +kernel), List.mem_of_getElem? (i := 1032) (by decide +kernel)⟩
theorem lw_p34 : lw_okq (⟨"BlueBag", "needWithin", "(III)V"⟩, 13) := ⟨⟨by decide +kernel, by decide +kernel⟩, List.mem_of_getElem? (i := 28) (by decide +kernel), List.mem_of_getElem? (i := 1071) (by decide +kernel), List.mem_of_getElem? (i := 1072) (by decide +kernel)⟩
theorem lw_p35 : lw_okq (⟨"BlueBag", "needWhat", "(II)V"⟩, 13) := ⟨⟨by decide +kernel, by decide +kernel⟩, List.mem_of_getElem? (i := 28) (by decide +kernel), List.mem_of_getElem? (i := 1082) (by decide +kernel), List.mem_of_getElem? (i := 1083) (by decide +kernel)⟩
theorem lw_p36 : lw_okq (⟨"BlueBag$Sending", "fill", "(III)V"⟩, 6) := ⟨⟨by decide +kernel, by decide +kernel⟩, List.mem_of_getElem? (i := 336) (by decide +kernel), List.mem_of_getElem? (i := 1167) (by decide +kernel), List.mem_of_getElem? (i := 1168) (by decide +kernel)⟩
theorem lw_p37 : lw_okq (⟨"BlueBag", "wouldFit", "(II)Z"⟩, 13) := ⟨⟨by decide +kernel, by decide +kernel⟩, List.mem_of_getElem? (i := 28) (by decide +kernel), List.mem_of_getElem? (i := 1234) (by decide +kernel), List.mem_of_getElem? (i := 1235) (by decide +kernel)⟩
theorem lw_p38 : lw_okq (⟨"BlueBag", "clearBlues", "()V"⟩, 13) := ⟨⟨by decide +kernel, by decide +kernel⟩, List.mem_of_getElem? (i := 28) (by decide +kernel), List.mem_of_getElem? (i := 1256) (by decide +kernel), List.mem_of_getElem? (i := 1257) (by decide +kernel)⟩
theorem lw_p39 : lw_okq (⟨"BlueBag", "gatherBlues", "(II)V"⟩, 13) := ⟨⟨by decide +kernel, by decide +kernel⟩, List.mem_of_getElem? (i := 28) (by decide +kernel), List.mem_of_getElem? (i := 1260) (by decide +kernel), List.mem_of_getElem? (i := 1261) (by decide +kernel)⟩
theorem lw_p40 : lw_okq (⟨"BlueBag", "unlikeBlues", "(I)I"⟩, 13) := ⟨⟨by decide +kernel, by decide +kernel⟩, List.mem_of_getElem? (i := 28) (by decide +kernel), List.mem_of_getElem? (i := 1264) (by decide +kernel), List.mem_of_getElem? (i := 1265) (by decide +kernel)⟩
theorem lw_p41 : lw_okq (⟨"BlueBag", "playAll", "(II)V"⟩, 13) := ⟨⟨by decide +kernel, by decide +kernel⟩, List.mem_of_getElem? (i := 28) (by decide +kernel), List.mem_of_getElem? (i := 1281) (by decide +kernel), List.mem_of_getElem? (i := 1282) (by decide +kernel)⟩
theorem lw_p42 : lw_okq (⟨"BlueBag", "gainAt", "(III)I"⟩, 13) := ⟨⟨by decide +kernel, by decide +kernel⟩, List.mem_of_getElem? (i := 28) (by decide +kernel), List.mem_of_getElem? (i := 1285) (by decide +kernel), List.mem_of_getElem? (i := 1286) (by decide +kernel)⟩
theorem lw_p43 : lw_okq (⟨"BlueBag", "drawAhead", "()V"⟩, 13) := ⟨⟨by decide +kernel, by decide +kernel⟩, List.mem_of_getElem? (i := 28) (by decide +kernel), List.mem_of_getElem? (i := 1296) (by decide +kernel), List.mem_of_getElem? (i := 1297) (by decide +kernel)⟩
theorem lw_p44 : lw_okq (⟨"BlueBagModel", "begin", "(I)V"⟩, 64) := ⟨⟨by decide +kernel, by decide +kernel⟩, List.mem_of_getElem? (i := 1306) (by decide +kernel), List.mem_of_getElem? (i := 1322) (by decide +kernel), List.mem_of_getElem? (i := 1323) (by decide +kernel)⟩
theorem lw_p45 : lw_okq (⟨"BlueBagModel", "fail", "(I)I"⟩, 64) := ⟨⟨by decide +kernel, by decide +kernel⟩, List.mem_of_getElem? (i := 1306) (by decide +kernel), List.mem_of_getElem? (i := 1531) (by decide +kernel), List.mem_of_getElem? (i := 1532) (by decide +kernel)⟩
theorem lw_p46 : lw_okq (⟨"BlueBagModel", "stepOn", "()V"⟩, 64) := ⟨⟨by decide +kernel, by decide +kernel⟩, List.mem_of_getElem? (i := 1306) (by decide +kernel), List.mem_of_getElem? (i := 1535) (by decide +kernel), List.mem_of_getElem? (i := 1536) (by decide +kernel)⟩
theorem lw_p47 : lw_okq (⟨"BlueBagModel", "byteAt", "(I)I"⟩, 64) := ⟨⟨by decide +kernel, by decide +kernel⟩, List.mem_of_getElem? (i := 1306) (by decide +kernel), List.mem_of_getElem? (i := 1539) (by decide +kernel), List.mem_of_getElem? (i := 1540) (by decide +kernel)⟩
def lw_privs_3 : List (MethodName × Nat) := [(⟨"BlueBag$Sky", "besideWithin", "(II)I"⟩, 13), (⟨"BlueBag", "needGirl", "(I)V"⟩, 13), (⟨"BlueBag", "needWithin", "(III)V"⟩, 13), (⟨"BlueBag", "needWhat", "(II)V"⟩, 13), (⟨"BlueBag$Sending", "fill", "(III)V"⟩, 6), (⟨"BlueBag", "wouldFit", "(II)Z"⟩, 13), (⟨"BlueBag", "clearBlues", "()V"⟩, 13), (⟨"BlueBag", "gatherBlues", "(II)V"⟩, 13), (⟨"BlueBag", "unlikeBlues", "(I)I"⟩, 13), (⟨"BlueBag", "playAll", "(II)V"⟩, 13), (⟨"BlueBag", "gainAt", "(III)I"⟩, 13), (⟨"BlueBag", "drawAhead", "()V"⟩, 13), (⟨"BlueBagModel", "begin", "(I)V"⟩, 64), (⟨"BlueBagModel", "fail", "(I)I"⟩, 64), (⟨"BlueBagModel", "stepOn", "()V"⟩, 64), (⟨"BlueBagModel", "byteAt", "(I)I"⟩, 64)]
theorem lw_r3 : ∀ q ∈ lw_privs_3, lw_okq q := List.forall_mem_cons.mpr ⟨lw_p32, List.forall_mem_cons.mpr ⟨lw_p33, List.forall_mem_cons.mpr ⟨lw_p34, List.forall_mem_cons.mpr ⟨lw_p35, List.forall_mem_cons.mpr ⟨lw_p36, List.forall_mem_cons.mpr ⟨lw_p37, List.forall_mem_cons.mpr ⟨lw_p38, List.forall_mem_cons.mpr ⟨lw_p39, List.forall_mem_cons.mpr ⟨lw_p40, List.forall_mem_cons.mpr ⟨lw_p41, List.forall_mem_cons.mpr ⟨lw_p42, List.forall_mem_cons.mpr ⟨lw_p43, List.forall_mem_cons.mpr ⟨lw_p44, List.forall_mem_cons.mpr ⟨lw_p45, List.forall_mem_cons.mpr ⟨lw_p46, List.forall_mem_cons.mpr ⟨lw_p47, fun _ h => absurd h List.not_mem_nil⟩⟩⟩⟩⟩⟩⟩⟩⟩⟩⟩⟩⟩⟩⟩⟩
theorem lw_p48 : lw_okq (⟨"BlueBagModel", "readLine", "(I)I"⟩, 64) := ⟨⟨by decide +kernel, by decide +kernel⟩, List.mem_of_getElem? (i := 1306) (by decide +kernel), List.mem_of_getElem? (i := 1554) (by decide +kernel), List.mem_of_getElem? (i := 1555) (by decide +kernel)⟩
theorem lw_p49 : lw_okq (⟨"BlueBagModel", "which", "([Ljava/lang/String;)I"⟩, 64) := ⟨⟨by decide +kernel, by decide +kernel⟩, List.mem_of_getElem? (i := 1306) (by decide +kernel), List.mem_of_getElem? (i := 1558) (by decide +kernel), List.mem_of_getElem? (i := 1559) (by decide +kernel)⟩
theorem lw_p50 : lw_okq (⟨"BlueBagModel", "is", "(Ljava/lang/String;)Z"⟩, 64) := ⟨⟨by decide +kernel, by decide +kernel⟩, List.mem_of_getElem? (i := 1306) (by decide +kernel), List.mem_of_getElem? (i := 1562) (by decide +kernel), List.mem_of_getElem? (i := 1563) (by decide +kernel)⟩
theorem lw_p51 : lw_okq (⟨"BlueBagModel", "wrong", "(I)V"⟩, 64) := ⟨⟨by decide +kernel, by decide +kernel⟩, List.mem_of_getElem? (i := 1306) (by decide +kernel), List.mem_of_getElem? (i := 1574) (by decide +kernel), List.mem_of_getElem? (i := 1575) (by decide +kernel)⟩
theorem lw_p52 : lw_okq (⟨"BlueBagModel", "sayOnce", "(I)V"⟩, 64) := ⟨⟨by decide +kernel, by decide +kernel⟩, List.mem_of_getElem? (i := 1306) (by decide +kernel), List.mem_of_getElem? (i := 1578) (by decide +kernel), List.mem_of_getElem? (i := 1579) (by decide +kernel)⟩
theorem lw_p53 : lw_okq (⟨"BlueBagModel", "saySky", "()V"⟩, 64) := ⟨⟨by decide +kernel, by decide +kernel⟩, List.mem_of_getElem? (i := 1306) (by decide +kernel), List.mem_of_getElem? (i := 1582) (by decide +kernel), List.mem_of_getElem? (i := 1583) (by decide +kernel)⟩
theorem lw_p54 : lw_okq (⟨"BlueBagModel", "readNumber", "(II)I"⟩, 64) := ⟨⟨by decide +kernel, by decide +kernel⟩, List.mem_of_getElem? (i := 1306) (by decide +kernel), List.mem_of_getElem? (i := 1586) (by decide +kernel), List.mem_of_getElem? (i := 1587) (by decide +kernel)⟩
theorem lw_p55 : lw_okq (⟨"BlueBagModel", "numberNow", "(II)I"⟩, 64) := ⟨⟨by decide +kernel, by decide +kernel⟩, List.mem_of_getElem? (i := 1306) (by decide +kernel), List.mem_of_getElem? (i := 1590) (by decide +kernel), List.mem_of_getElem? (i := 1591) (by decide +kernel)⟩
theorem lw_p56 : lw_okq (⟨"BlueBagModel", "sayRule", "(Z)V"⟩, 64) := ⟨⟨by decide +kernel, by decide +kernel⟩, List.mem_of_getElem? (i := 1306) (by decide +kernel), List.mem_of_getElem? (i := 1594) (by decide +kernel), List.mem_of_getElem? (i := 1595) (by decide +kernel)⟩
theorem lw_p57 : lw_okq (⟨"BlueBagModel", "readExpression", "(I)V"⟩, 64) := ⟨⟨by decide +kernel, by decide +kernel⟩, List.mem_of_getElem? (i := 1306) (by decide +kernel), List.mem_of_getElem? (i := 1598) (by decide +kernel), List.mem_of_getElem? (i := 1599) (by decide +kernel)⟩
theorem lw_p58 : lw_okq (⟨"BlueBagModel", "isMarked", "(I)Z"⟩, 64) := ⟨⟨by decide +kernel, by decide +kernel⟩, List.mem_of_getElem? (i := 1306) (by decide +kernel), List.mem_of_getElem? (i := 1602) (by decide +kernel), List.mem_of_getElem? (i := 1603) (by decide +kernel)⟩
theorem lw_p59 : lw_okq (⟨"BlueBagModel", "readAnd", "(I)V"⟩, 64) := ⟨⟨by decide +kernel, by decide +kernel⟩, List.mem_of_getElem? (i := 1306) (by decide +kernel), List.mem_of_getElem? (i := 1606) (by decide +kernel), List.mem_of_getElem? (i := 1607) (by decide +kernel)⟩
theorem lw_p60 : lw_okq (⟨"BlueBagModel", "readNot", "(I)V"⟩, 64) := ⟨⟨by decide +kernel, by decide +kernel⟩, List.mem_of_getElem? (i := 1306) (by decide +kernel), List.mem_of_getElem? (i := 1610) (by decide +kernel), List.mem_of_getElem? (i := 1611) (by decide +kernel)⟩
theorem lw_p61 : lw_okq (⟨"BlueBagModel", "readSum", "(I)V"⟩, 64) := ⟨⟨by decide +kernel, by decide +kernel⟩, List.mem_of_getElem? (i := 1306) (by decide +kernel), List.mem_of_getElem? (i := 1615) (by decide +kernel), List.mem_of_getElem? (i := 1616) (by decide +kernel)⟩
theorem lw_p62 : lw_okq (⟨"BlueBagModel", "readProduct", "(I)V"⟩, 64) := ⟨⟨by decide +kernel, by decide +kernel⟩, List.mem_of_getElem? (i := 1306) (by decide +kernel), List.mem_of_getElem? (i := 1619) (by decide +kernel), List.mem_of_getElem? (i := 1620) (by decide +kernel)⟩
theorem lw_p63 : lw_okq (⟨"BlueBagModel", "readPart", "(I)V"⟩, 64) := ⟨⟨by decide +kernel, by decide +kernel⟩, List.mem_of_getElem? (i := 1306) (by decide +kernel), List.mem_of_getElem? (i := 1623) (by decide +kernel), List.mem_of_getElem? (i := 1624) (by decide +kernel)⟩
def lw_privs_4 : List (MethodName × Nat) := [(⟨"BlueBagModel", "readLine", "(I)I"⟩, 64), (⟨"BlueBagModel", "which", "([Ljava/lang/String;)I"⟩, 64), (⟨"BlueBagModel", "is", "(Ljava/lang/String;)Z"⟩, 64), (⟨"BlueBagModel", "wrong", "(I)V"⟩, 64), (⟨"BlueBagModel", "sayOnce", "(I)V"⟩, 64), (⟨"BlueBagModel", "saySky", "()V"⟩, 64), (⟨"BlueBagModel", "readNumber", "(II)I"⟩, 64), (⟨"BlueBagModel", "numberNow", "(II)I"⟩, 64), (⟨"BlueBagModel", "sayRule", "(Z)V"⟩, 64), (⟨"BlueBagModel", "readExpression", "(I)V"⟩, 64), (⟨"BlueBagModel", "isMarked", "(I)Z"⟩, 64), (⟨"BlueBagModel", "readAnd", "(I)V"⟩, 64), (⟨"BlueBagModel", "readNot", "(I)V"⟩, 64), (⟨"BlueBagModel", "readSum", "(I)V"⟩, 64), (⟨"BlueBagModel", "readProduct", "(I)V"⟩, 64), (⟨"BlueBagModel", "readPart", "(I)V"⟩, 64)]
theorem lw_r4 : ∀ q ∈ lw_privs_4, lw_okq q := List.forall_mem_cons.mpr ⟨lw_p48, List.forall_mem_cons.mpr ⟨lw_p49, List.forall_mem_cons.mpr ⟨lw_p50, List.forall_mem_cons.mpr ⟨lw_p51, List.forall_mem_cons.mpr ⟨lw_p52, List.forall_mem_cons.mpr ⟨lw_p53, List.forall_mem_cons.mpr ⟨lw_p54, List.forall_mem_cons.mpr ⟨lw_p55, List.forall_mem_cons.mpr ⟨lw_p56, List.forall_mem_cons.mpr ⟨lw_p57, List.forall_mem_cons.mpr ⟨lw_p58, List.forall_mem_cons.mpr ⟨lw_p59, List.forall_mem_cons.mpr ⟨lw_p60, List.forall_mem_cons.mpr ⟨lw_p61, List.forall_mem_cons.mpr ⟨lw_p62, List.forall_mem_cons.mpr ⟨lw_p63, fun _ h => absurd h List.not_mem_nil⟩⟩⟩⟩⟩⟩⟩⟩⟩⟩⟩⟩⟩⟩⟩⟩
theorem lw_p64 : lw_okq (⟨"BlueBagModel", "lay", "(I)V"⟩, 64) := ⟨⟨by decide +kernel, by decide +kernel⟩, List.mem_of_getElem? (i := 1306) (by decide +kernel), List.mem_of_getElem? (i := 1627) (by decide +kernel), List.mem_of_getElem? (i := 1628) (by decide +kernel)⟩
theorem lw_p65 : lw_okq (⟨"BlueBagModel", "mark", "(I)V"⟩, 64) := ⟨⟨by decide +kernel, by decide +kernel⟩, List.mem_of_getElem? (i := 1306) (by decide +kernel), List.mem_of_getElem? (i := 1631) (by decide +kernel), List.mem_of_getElem? (i := 1632) (by decide +kernel)⟩
theorem lw_p66 : lw_okq (⟨"BlueBagModel", "sayWoman", "(I)V"⟩, 64) := ⟨⟨by decide +kernel, by decide +kernel⟩, List.mem_of_getElem? (i := 1306) (by decide +kernel), List.mem_of_getElem? (i := 1637) (by decide +kernel), List.mem_of_getElem? (i := 1638) (by decide +kernel)⟩
theorem lw_p67 : lw_okq (⟨"BlueBagModel", "cellNow", "(I)I"⟩, 64) := ⟨⟨by decide +kernel, by decide +kernel⟩, List.mem_of_getElem? (i := 1306) (by decide +kernel), List.mem_of_getElem? (i := 1641) (by decide +kernel), List.mem_of_getElem? (i := 1642) (by decide +kernel)⟩
theorem lw_p68 : lw_okq (⟨"BlueBagModel", "sayBlue", "()V"⟩, 64) := ⟨⟨by decide +kernel, by decide +kernel⟩, List.mem_of_getElem? (i := 1306) (by decide +kernel), List.mem_of_getElem? (i := 1648) (by decide +kernel), List.mem_of_getElem? (i := 1649) (by decide +kernel)⟩
theorem lw_p69 : lw_okq (⟨"BlueBagModel", "sayPegs", "()V"⟩, 64) := ⟨⟨by decide +kernel, by decide +kernel⟩, List.mem_of_getElem? (i := 1306) (by decide +kernel), List.mem_of_getElem? (i := 1653) (by decide +kernel), List.mem_of_getElem? (i := 1654) (by decide +kernel)⟩
theorem lw_p70 : lw_okq (⟨"BlueBagModel", "takeOver", "()V"⟩, 64) := ⟨⟨by decide +kernel, by decide +kernel⟩, List.mem_of_getElem? (i := 1306) (by decide +kernel), List.mem_of_getElem? (i := 1657) (by decide +kernel), List.mem_of_getElem? (i := 1658) (by decide +kernel)⟩
theorem lw_p71 : lw_okq (⟨"BlueBagModel", "cells", "()I"⟩, 64) := ⟨⟨by decide +kernel, by decide +kernel⟩, List.mem_of_getElem? (i := 1306) (by decide +kernel), List.mem_of_getElem? (i := 1672) (by decide +kernel), List.mem_of_getElem? (i := 1673) (by decide +kernel)⟩
theorem lw_p72 : lw_okq (⟨"BlueBagModel", "allBlue", "()I"⟩, 64) := ⟨⟨by decide +kernel, by decide +kernel⟩, List.mem_of_getElem? (i := 1306) (by decide +kernel), List.mem_of_getElem? (i := 1676) (by decide +kernel), List.mem_of_getElem? (i := 1677) (by decide +kernel)⟩
theorem lw_p73 : lw_okq (⟨"BlueBagModel", "isCell", "(I)Z"⟩, 64) := ⟨⟨by decide +kernel, by decide +kernel⟩, List.mem_of_getElem? (i := 1306) (by decide +kernel), List.mem_of_getElem? (i := 1684) (by decide +kernel), List.mem_of_getElem? (i := 1685) (by decide +kernel)⟩
theorem lw_p74 : lw_okq (⟨"BlueBagModel", "besideOf", "(I)I"⟩, 64) := ⟨⟨by decide +kernel, by decide +kernel⟩, List.mem_of_getElem? (i := 1306) (by decide +kernel), List.mem_of_getElem? (i := 1691) (by decide +kernel), List.mem_of_getElem? (i := 1692) (by decide +kernel)⟩
theorem lw_p75 : lw_okq (⟨"BlueBagModel", "farOf", "(II)I"⟩, 64) := ⟨⟨by decide +kernel, by decide +kernel⟩, List.mem_of_getElem? (i := 1306) (by decide +kernel), List.mem_of_getElem? (i := 1695) (by decide +kernel), List.mem_of_getElem? (i := 1696) (by decide +kernel)⟩
theorem lw_p76 : lw_okq (⟨"BlueBagModel", "columnOf", "(I)I"⟩, 64) := ⟨⟨by decide +kernel, by decide +kernel⟩, List.mem_of_getElem? (i := 1306) (by decide +kernel), List.mem_of_getElem? (i := 1699) (by decide +kernel), List.mem_of_getElem? (i := 1700) (by decide +kernel)⟩
theorem lw_p77 : lw_okq (⟨"BlueBagModel", "rowOf", "(I)I"⟩, 64) := ⟨⟨by decide +kernel, by decide +kernel⟩, List.mem_of_getElem? (i := 1306) (by decide +kernel), List.mem_of_getElem? (i := 1704) (by decide +kernel), List.mem_of_getElem? (i := 1705) (by decide +kernel)⟩
theorem lw_p78 : lw_okq (⟨"BlueBagModel", "girlsAt", "(I)I"⟩, 64) := ⟨⟨by decide +kernel, by decide +kernel⟩, List.mem_of_getElem? (i := 1306) (by decide +kernel), List.mem_of_getElem? (i := 1708) (by decide +kernel), List.mem_of_getElem? (i := 1709) (by decide +kernel)⟩
theorem lw_p79 : lw_okq (⟨"BlueBagModel", "patchOf", "(II)I"⟩, 64) := ⟨⟨by decide +kernel, by decide +kernel⟩, List.mem_of_getElem? (i := 1306) (by decide +kernel), List.mem_of_getElem? (i := 1712) (by decide +kernel), List.mem_of_getElem? (i := 1713) (by decide +kernel)⟩
def lw_privs_5 : List (MethodName × Nat) := [(⟨"BlueBagModel", "lay", "(I)V"⟩, 64), (⟨"BlueBagModel", "mark", "(I)V"⟩, 64), (⟨"BlueBagModel", "sayWoman", "(I)V"⟩, 64), (⟨"BlueBagModel", "cellNow", "(I)I"⟩, 64), (⟨"BlueBagModel", "sayBlue", "()V"⟩, 64), (⟨"BlueBagModel", "sayPegs", "()V"⟩, 64), (⟨"BlueBagModel", "takeOver", "()V"⟩, 64), (⟨"BlueBagModel", "cells", "()I"⟩, 64), (⟨"BlueBagModel", "allBlue", "()I"⟩, 64), (⟨"BlueBagModel", "isCell", "(I)Z"⟩, 64), (⟨"BlueBagModel", "besideOf", "(I)I"⟩, 64), (⟨"BlueBagModel", "farOf", "(II)I"⟩, 64), (⟨"BlueBagModel", "columnOf", "(I)I"⟩, 64), (⟨"BlueBagModel", "rowOf", "(I)I"⟩, 64), (⟨"BlueBagModel", "girlsAt", "(I)I"⟩, 64), (⟨"BlueBagModel", "patchOf", "(II)I"⟩, 64)]
theorem lw_r5 : ∀ q ∈ lw_privs_5, lw_okq q := List.forall_mem_cons.mpr ⟨lw_p64, List.forall_mem_cons.mpr ⟨lw_p65, List.forall_mem_cons.mpr ⟨lw_p66, List.forall_mem_cons.mpr ⟨lw_p67, List.forall_mem_cons.mpr ⟨lw_p68, List.forall_mem_cons.mpr ⟨lw_p69, List.forall_mem_cons.mpr ⟨lw_p70, List.forall_mem_cons.mpr ⟨lw_p71, List.forall_mem_cons.mpr ⟨lw_p72, List.forall_mem_cons.mpr ⟨lw_p73, List.forall_mem_cons.mpr ⟨lw_p74, List.forall_mem_cons.mpr ⟨lw_p75, List.forall_mem_cons.mpr ⟨lw_p76, List.forall_mem_cons.mpr ⟨lw_p77, List.forall_mem_cons.mpr ⟨lw_p78, List.forall_mem_cons.mpr ⟨lw_p79, fun _ h => absurd h List.not_mem_nil⟩⟩⟩⟩⟩⟩⟩⟩⟩⟩⟩⟩⟩⟩⟩⟩
theorem lw_p80 : lw_okq (⟨"BlueBagModel", "isGirl", "(I)Z"⟩, 64) := ⟨⟨by decide +kernel, by decide +kernel⟩, List.mem_of_getElem? (i := 1306) (by decide +kernel), List.mem_of_getElem? (i := 1720) (by decide +kernel), List.mem_of_getElem? (i := 1721) (by decide +kernel)⟩
theorem lw_p81 : lw_okq (⟨"BlueBagModel", "dyesOf", "(II)I"⟩, 64) := ⟨⟨by decide +kernel, by decide +kernel⟩, List.mem_of_getElem? (i := 1306) (by decide +kernel), List.mem_of_getElem? (i := 1725) (by decide +kernel), List.mem_of_getElem? (i := 1726) (by decide +kernel)⟩
theorem lw_p82 : lw_okq (⟨"BlueBagModel", "ask", "(I)V"⟩, 64) := ⟨⟨by decide +kernel, by decide +kernel⟩, List.mem_of_getElem? (i := 1306) (by decide +kernel), List.mem_of_getElem? (i := 1729) (by decide +kernel), List.mem_of_getElem? (i := 1730) (by decide +kernel)⟩
theorem lw_p83 : lw_okq (⟨"BlueBagModel", "blueBeside", "(I)I"⟩, 64) := ⟨⟨by decide +kernel, by decide +kernel⟩, List.mem_of_getElem? (i := 1306) (by decide +kernel), List.mem_of_getElem? (i := 1733) (by decide +kernel), List.mem_of_getElem? (i := 1734) (by decide +kernel)⟩
theorem lw_p84 : lw_okq (⟨"BlueBagModel", "valueNow", "([II)I"⟩, 64) := ⟨⟨by decide +kernel, by decide +kernel⟩, List.mem_of_getElem? (i := 1306) (by decide +kernel), List.mem_of_getElem? (i := 1737) (by decide +kernel), List.mem_of_getElem? (i := 1738) (by decide +kernel)⟩
theorem lw_p85 : lw_okq (⟨"BlueBagModel", "refuse", "(I)I"⟩, 64) := ⟨⟨by decide +kernel, by decide +kernel⟩, List.mem_of_getElem? (i := 1306) (by decide +kernel), List.mem_of_getElem? (i := 1749) (by decide +kernel), List.mem_of_getElem? (i := 1750) (by decide +kernel)⟩
theorem lw_p86 : lw_okq (⟨"BlueBagModel", "keep", "()V"⟩, 64) := ⟨⟨by decide +kernel, by decide +kernel⟩, List.mem_of_getElem? (i := 1306) (by decide +kernel), List.mem_of_getElem? (i := 1753) (by decide +kernel), List.mem_of_getElem? (i := 1754) (by decide +kernel)⟩
theorem lw_p87 : lw_okq (⟨"BlueBagModel", "pack", "([II)V"⟩, 64) := ⟨⟨by decide +kernel, by decide +kernel⟩, List.mem_of_getElem? (i := 1306) (by decide +kernel), List.mem_of_getElem? (i := 1757) (by decide +kernel), List.mem_of_getElem? (i := 1758) (by decide +kernel)⟩
theorem lw_p88 : lw_okq (⟨"BlueBagModel", "goOn", "(I)V"⟩, 64) := ⟨⟨by decide +kernel, by decide +kernel⟩, List.mem_of_getElem? (i := 1306) (by decide +kernel), List.mem_of_getElem? (i := 1761) (by decide +kernel), List.mem_of_getElem? (i := 1762) (by decide +kernel)⟩
theorem lw_p89 : lw_okq (⟨"BlueBagModel", "aDay", "()V"⟩, 64) := ⟨⟨by decide +kernel, by decide +kernel⟩, List.mem_of_getElem? (i := 1306) (by decide +kernel), List.mem_of_getElem? (i := 1765) (by decide +kernel), List.mem_of_getElem? (i := 1766) (by decide +kernel)⟩
theorem lw_p90 : lw_okq (⟨"BlueBagModel", "swish", "(II)V"⟩, 64) := ⟨⟨by decide +kernel, by decide +kernel⟩, List.mem_of_getElem? (i := 1306) (by decide +kernel), List.mem_of_getElem? (i := 1769) (by decide +kernel), List.mem_of_getElem? (i := 1770) (by decide +kernel)⟩
theorem lw_p91 : lw_okq (⟨"BlueBagModel", "dye", "(II)V"⟩, 64) := ⟨⟨by decide +kernel, by decide +kernel⟩, List.mem_of_getElem? (i := 1306) (by decide +kernel), List.mem_of_getElem? (i := 1773) (by decide +kernel), List.mem_of_getElem? (i := 1774) (by decide +kernel)⟩
theorem lw_p92 : lw_okq (⟨"BlueBagModel", "fadesOf", "(I)I"⟩, 64) := ⟨⟨by decide +kernel, by decide +kernel⟩, List.mem_of_getElem? (i := 1306) (by decide +kernel), List.mem_of_getElem? (i := 1780) (by decide +kernel), List.mem_of_getElem? (i := 1781) (by decide +kernel)⟩
theorem lw_p93 : lw_okq (⟨"BlueBagModel", "failing", "(I)Z"⟩, 64) := ⟨⟨by decide +kernel, by decide +kernel⟩, List.mem_of_getElem? (i := 1306) (by decide +kernel), List.mem_of_getElem? (i := 1788) (by decide +kernel), List.mem_of_getElem? (i := 1789) (by decide +kernel)⟩
theorem lw_p94 : lw_okq (⟨"BlueBagModel", "unpack", "([II)V"⟩, 64) := ⟨⟨by decide +kernel, by decide +kernel⟩, List.mem_of_getElem? (i := 1306) (by decide +kernel), List.mem_of_getElem? (i := 1809) (by decide +kernel), List.mem_of_getElem? (i := 1810) (by decide +kernel)⟩
theorem lw_p95 : lw_okq (⟨"BlueBagModel", "uneven", "()I"⟩, 64) := ⟨⟨by decide +kernel, by decide +kernel⟩, List.mem_of_getElem? (i := 1306) (by decide +kernel), List.mem_of_getElem? (i := 1823) (by decide +kernel), List.mem_of_getElem? (i := 1824) (by decide +kernel)⟩
def lw_privs_6 : List (MethodName × Nat) := [(⟨"BlueBagModel", "isGirl", "(I)Z"⟩, 64), (⟨"BlueBagModel", "dyesOf", "(II)I"⟩, 64), (⟨"BlueBagModel", "ask", "(I)V"⟩, 64), (⟨"BlueBagModel", "blueBeside", "(I)I"⟩, 64), (⟨"BlueBagModel", "valueNow", "([II)I"⟩, 64), (⟨"BlueBagModel", "refuse", "(I)I"⟩, 64), (⟨"BlueBagModel", "keep", "()V"⟩, 64), (⟨"BlueBagModel", "pack", "([II)V"⟩, 64), (⟨"BlueBagModel", "goOn", "(I)V"⟩, 64), (⟨"BlueBagModel", "aDay", "()V"⟩, 64), (⟨"BlueBagModel", "swish", "(II)V"⟩, 64), (⟨"BlueBagModel", "dye", "(II)V"⟩, 64), (⟨"BlueBagModel", "fadesOf", "(I)I"⟩, 64), (⟨"BlueBagModel", "failing", "(I)Z"⟩, 64), (⟨"BlueBagModel", "unpack", "([II)V"⟩, 64), (⟨"BlueBagModel", "uneven", "()I"⟩, 64)]
theorem lw_r6 : ∀ q ∈ lw_privs_6, lw_okq q := List.forall_mem_cons.mpr ⟨lw_p80, List.forall_mem_cons.mpr ⟨lw_p81, List.forall_mem_cons.mpr ⟨lw_p82, List.forall_mem_cons.mpr ⟨lw_p83, List.forall_mem_cons.mpr ⟨lw_p84, List.forall_mem_cons.mpr ⟨lw_p85, List.forall_mem_cons.mpr ⟨lw_p86, List.forall_mem_cons.mpr ⟨lw_p87, List.forall_mem_cons.mpr ⟨lw_p88, List.forall_mem_cons.mpr ⟨lw_p89, List.forall_mem_cons.mpr ⟨lw_p90, List.forall_mem_cons.mpr ⟨lw_p91, List.forall_mem_cons.mpr ⟨lw_p92, List.forall_mem_cons.mpr ⟨lw_p93, List.forall_mem_cons.mpr ⟨lw_p94, List.forall_mem_cons.mpr ⟨lw_p95, fun _ h => absurd h List.not_mem_nil⟩⟩⟩⟩⟩⟩⟩⟩⟩⟩⟩⟩⟩⟩⟩⟩
theorem lw_p96 : lw_okq (⟨"BlueBagModel", "extreme", "(Z)I"⟩, 64) := ⟨⟨by decide +kernel, by decide +kernel⟩, List.mem_of_getElem? (i := 1306) (by decide +kernel), List.mem_of_getElem? (i := 1827) (by decide +kernel), List.mem_of_getElem? (i := 1828) (by decide +kernel)⟩
theorem lw_p97 : lw_okq (⟨"BlueBagModel", "streakFrom", "(I)I"⟩, 64) := ⟨⟨by decide +kernel, by decide +kernel⟩, List.mem_of_getElem? (i := 1306) (by decide +kernel), List.mem_of_getElem? (i := 1858) (by decide +kernel), List.mem_of_getElem? (i := 1859) (by decide +kernel)⟩
theorem lw_p98 : lw_okq (⟨"BlueBagModel", "unevenNext", "()I"⟩, 64) := ⟨⟨by decide +kernel, by decide +kernel⟩, List.mem_of_getElem? (i := 1306) (by decide +kernel), List.mem_of_getElem? (i := 1879) (by decide +kernel), List.mem_of_getElem? (i := 1880) (by decide +kernel)⟩
theorem lw_p99 : lw_okq (⟨"BlueBagModel", "tellLeast", "(I)V"⟩, 64) := ⟨⟨by decide +kernel, by decide +kernel⟩, List.mem_of_getElem? (i := 1306) (by decide +kernel), List.mem_of_getElem? (i := 1907) (by decide +kernel), List.mem_of_getElem? (i := 1908) (by decide +kernel)⟩
theorem lw_p100 : lw_okq (⟨"BlueBagModel", "with", "(III)I"⟩, 64) := ⟨⟨by decide +kernel, by decide +kernel⟩, List.mem_of_getElem? (i := 1306) (by decide +kernel), List.mem_of_getElem? (i := 1911) (by decide +kernel), List.mem_of_getElem? (i := 1912) (by decide +kernel)⟩
theorem lw_p101 : lw_okq (⟨"BlueBagModel", "isAsSeen", "()Z"⟩, 64) := ⟨⟨by decide +kernel, by decide +kernel⟩, List.mem_of_getElem? (i := 1306) (by decide +kernel), List.mem_of_getElem? (i := 1924) (by decide +kernel), List.mem_of_getElem? (i := 1925) (by decide +kernel)⟩
theorem lw_p102 : lw_okq (⟨"BlueBagModel", "tellFits", "()V"⟩, 64) := ⟨⟨by decide +kernel, by decide +kernel⟩, List.mem_of_getElem? (i := 1306) (by decide +kernel), List.mem_of_getElem? (i := 1928) (by decide +kernel), List.mem_of_getElem? (i := 1929) (by decide +kernel)⟩
theorem lw_p103 : lw_okq (⟨"BlueBagModel", "unlike", "(I)I"⟩, 64) := ⟨⟨by decide +kernel, by decide +kernel⟩, List.mem_of_getElem? (i := 1306) (by decide +kernel), List.mem_of_getElem? (i := 1936) (by decide +kernel), List.mem_of_getElem? (i := 1937) (by decide +kernel)⟩
theorem lw_p104 : lw_okq (⟨"BlueBagModel", "tellGains", "(II)V"⟩, 64) := ⟨⟨by decide +kernel, by decide +kernel⟩, List.mem_of_getElem? (i := 1306) (by decide +kernel), List.mem_of_getElem? (i := 1948) (by decide +kernel), List.mem_of_getElem? (i := 1949) (by decide +kernel)⟩
theorem lw_p105 : lw_okq (⟨"BlueBagModel", "something", "()V"⟩, 64) := ⟨⟨by decide +kernel, by decide +kernel⟩, List.mem_of_getElem? (i := 1306) (by decide +kernel), List.mem_of_getElem? (i := 1956) (by decide +kernel), List.mem_of_getElem? (i := 1957) (by decide +kernel)⟩
theorem lw_p106 : lw_okq (⟨"BlueBagModel", "drawOf", "(I)I"⟩, 64) := ⟨⟨by decide +kernel, by decide +kernel⟩, List.mem_of_getElem? (i := 1306) (by decide +kernel), List.mem_of_getElem? (i := 1960) (by decide +kernel), List.mem_of_getElem? (i := 1961) (by decide +kernel)⟩
def lw_privs_7 : List (MethodName × Nat) := [(⟨"BlueBagModel", "extreme", "(Z)I"⟩, 64), (⟨"BlueBagModel", "streakFrom", "(I)I"⟩, 64), (⟨"BlueBagModel", "unevenNext", "()I"⟩, 64), (⟨"BlueBagModel", "tellLeast", "(I)V"⟩, 64), (⟨"BlueBagModel", "with", "(III)I"⟩, 64), (⟨"BlueBagModel", "isAsSeen", "()Z"⟩, 64), (⟨"BlueBagModel", "tellFits", "()V"⟩, 64), (⟨"BlueBagModel", "unlike", "(I)I"⟩, 64), (⟨"BlueBagModel", "tellGains", "(II)V"⟩, 64), (⟨"BlueBagModel", "something", "()V"⟩, 64), (⟨"BlueBagModel", "drawOf", "(I)I"⟩, 64)]
theorem lw_r7 : ∀ q ∈ lw_privs_7, lw_okq q := List.forall_mem_cons.mpr ⟨lw_p96, List.forall_mem_cons.mpr ⟨lw_p97, List.forall_mem_cons.mpr ⟨lw_p98, List.forall_mem_cons.mpr ⟨lw_p99, List.forall_mem_cons.mpr ⟨lw_p100, List.forall_mem_cons.mpr ⟨lw_p101, List.forall_mem_cons.mpr ⟨lw_p102, List.forall_mem_cons.mpr ⟨lw_p103, List.forall_mem_cons.mpr ⟨lw_p104, List.forall_mem_cons.mpr ⟨lw_p105, List.forall_mem_cons.mpr ⟨lw_p106, fun _ h => absurd h List.not_mem_nil⟩⟩⟩⟩⟩⟩⟩⟩⟩⟩⟩
def lw_privs : List (MethodName × Nat) := lw_privs_1 ++ (lw_privs_2 ++ (lw_privs_3 ++ (lw_privs_4 ++ (lw_privs_5 ++ (lw_privs_6 ++ (lw_privs_7))))))
def lw_tbl : List Cond := k2_sels lw_privs ++ tables_1
theorem lw_privs_ok : ∀ q ∈ lw_privs, lw_okq q := by
  show ∀ q ∈ lw_privs_1 ++ (lw_privs_2 ++ (lw_privs_3 ++ (lw_privs_4 ++ (lw_privs_5 ++ (lw_privs_6 ++ (lw_privs_7)))))), lw_okq q
  exact List.forall_mem_append.mpr ⟨lw_r1, List.forall_mem_append.mpr ⟨lw_r2, List.forall_mem_append.mpr ⟨lw_r3, List.forall_mem_append.mpr ⟨lw_r4, List.forall_mem_append.mpr ⟨lw_r5, List.forall_mem_append.mpr ⟨lw_r6, lw_r7⟩⟩⟩⟩⟩⟩

/-! ===== BEGIN words of one list among another's, by their places ===== -/
theorem goodIn_r {big : List Cond} (ws : List Cond) (ps : List Nat) (hp : ws = ps.filterMap (fun i => big[i]?)) (h : ws.all goodWord = true) : GoodIn big ws := by
  intro w hw
  have h1 := List.all_eq_true.mp h w hw
  rw [hp] at hw
  obtain ⟨i, -, hi⟩ := List.mem_filterMap.mp hw
  have hm : w ∈ big := by first | exact List.mem_of_getElem? hi | exact List.getElem?_mem hi
  exact ⟨hm, good_of_word h1⟩
theorem goodIn_app {big a b : List Cond} (ha : GoodIn big a) (hb : GoodIn big b) : GoodIn big (a ++ b) := fun w h => (List.mem_append.mp h).elim (ha w) (hb w)
theorem goodIn_ca {big a b : List Cond} {c : Cond} (ha : GoodIn big (c :: a)) (hb : GoodIn big b) : GoodIn big (c :: (a ++ b)) := fun w h => (List.mem_cons.mp h).elim (fun e => ha w (List.mem_cons.mpr (Or.inl e))) (fun h => (List.mem_append.mp h).elim (fun h => ha w (List.mem_cons.mpr (Or.inr h))) (hb w))
theorem goodIn_sub {big ws : List Cond} (hm : ∀ w ∈ ws, w ∈ big) (h : ws.all goodWord = true) : GoodIn big ws := fun w hw => ⟨hm w hw, good_of_word (List.all_eq_true.mp h w hw)⟩
/-! ===== END ===== -/

/-! ===== BEGIN exceptions that leave a method, and their catching by the caller (launches without stack traces) ===== -/
section VXA
/-! The laws vx_back, vx_callV, vx_callS, vx_callSW, vx_throw0, vx_throwS follow proofs of the library, with one case more: JvmDerived/Free/Laws.lean (Back.of_free), Shelf42/LK1.lean (callV, callS), Shelf/KitTraced.lean (throwNew0V, throwNewS). -/
/-- where a method has thrown q: the class by its name, the cell, what was written, the world -/
def vx_T (XC : String → State → State → Prop) (st : State) (q : Addr) (t : State) (mc ms : Nat) (free : Addr → Prop) : Prop :=
  ∃ (E : String) (ce : Cell) (L : List Loc), XC E st t ∧ t.heap[q]? = some ce ∧ ce.vm = .none ∧ st.vm.findClass E = some ce.cls ∧ st.WarmedH t.vm ∧ st.sameButNew ({ t with vm := st.vm } : State) L mc ms ∧ ∀ z ∈ L, free z.base
def vx_Q (Qc : Array Value → State → Outcome → State → Prop) (XC : String → State → State → Prop) (mc ms : Nat) (free : Addr → Prop) : Array Value → State → Outcome → State → Prop := fun a st o t =>
  (Qc a st o t ∧ ∃ L, FrameEnd st o t L mc ms ∧ ∀ q ∈ L, free q.base) ∨ ∃ q, o = .threw q ∧ vx_T XC st q t mc ms free
/-- a callee that returns or throws -/
def vx_Met (l : Launch) (y : MethodName) (ws : List Cond) (rm : Room) (Pc : Array Value → State → Prop) (Qc : Array Value → State → Outcome → State → Prop) (XC : String → State → State → Prop) (mc ms : Nat) (free : Addr → Prop) : Prop :=
  MetFree l y (headSpec ws rm) Pc (fun _ _ _ _ _ => True) (vx_Q Qc XC mc ms free)
def vx_Post (XC : String → State → State → Prop) (mc ms : Nat) (free : Addr → Prop) : Pt → Array Value → Addr → Pt → Prop := fun A a q B =>
  ∃ (g : JFrame) (mk : MethodId) (t : State) (L : List Loc) (E : String) (ce : Cell), B.U.heap = t.heap ∧ B.U.vm = t.vm ∧ XC E (A.U.calling g mk a) t ∧ t.heap[q]? = some ce ∧ ce.vm = .none ∧ A.U.vm.findClass E = some ce.cls ∧ B.locs = A.locs ++ L ∧ (∀ z ∈ L, free z.base) ∧ B.cells = A.cells + mc ∧ B.slots = A.slots + ms
def vx_Back (l : Launch) (R : Room) (p : Program) (e : Env) (below : List Frame) (s : State) (sargs : Array Value) (y : MethodName) (len W9 : Nat)
    (Pre : Pt → Array Value → Prop) (Post : Pt → Array Value → Option Value → Pt → Prop) (PostX : Pt → Array Value → Addr → Pt → Prop) : Prop :=
  ∀ (m : MethodId) (meth : Method) (c : Code) (A : Pt) (g : JFrame) (ig : Instr) (mk : MethodId) (a : Array Value),
    Stand p l e R s m sargs below meth c A.U A.locs A.cells A.slots → g.method = m → g.locals.size = c.maxLocals → decode c.code g.pc = .ok (ig, len) →
    2 * g.monitorRoom + (g.stack.map fun v => v.category).sum ≤ W9 → A.U.methodNamed? y = some mk → Pre A a →
    (∃ (v : Option Value) (B : Pt), Stand p l e R s m sargs below meth c B.U B.locs B.cells B.slots ∧ Post A a v B ∧
      Steps p.tables e below (doInvoke e (A.U.setTop g) [] mk a).1 (B.U.setTop { g with pc := g.pc + len, stack := v.toList ++ g.stack })) ∨
    (∃ (q : Addr) (B : Pt), Stand p l e R s m sargs below meth c B.U B.locs B.cells B.slots ∧ PostX A a q B ∧
      Steps p.tables e below (doInvoke e (A.U.setTop g) [] mk a).1 ((B.U.setTop g).pushFrame (.throwing q)))
section Payer
variable {l : Launch} {R : Room} {p : Program} {e : Env} {below : List Frame} {s : State} {sargs : Array Value} {y : MethodName} {len W9 : Nat}
theorem vx_back {ws : List Cond} {rm : Room} {Pc : Array Value → State → Prop} {Qc : Array Value → State → Outcome → State → Prop} {XC : String → State → State → Prop} {mc ms : Nat} {free : Addr → Prop} {bytes : ByteArray} {maxL : Nat} {ret : Option FieldType}
    (hM : vx_Met l y ws rm Pc Qc XC mc ms free) (hblind : FrameBlind Pc) (hrc : rm.cells = mc) (hrs : rm.slots = ms)
    (hframes : rm.frames + 1 ≤ R.frames) (hlocals : W9 + (maxL + 11) + rm.locals ≤ R.locals)
    (hws : ∀ w ∈ ws, ∀ a' U, s.WarmedH U.vm → w.before a' U = true) (hcode : Cond.code y bytes maxL ret ∈ ws) (hinit : ∀ a' U, s.WarmedH U.vm → (Cond.initialized y.cls).before a' U = true) :
    vx_Back l R p e below s sargs y len W9 (PreOf R mc ms Pc) (PostOf Qc mc ms free) (vx_Post XC mc ms free) := by
  intro m meth c A g ig mk a X hg hsize hdg hW hn hp
  have h1 : (headSpec ws rm).pre.before a A.U = true := atoms_intro fun w hw => hws w hw _ _ X.warmed
  have h2 : (Cond.code y bytes maxL ret).before a A.U = true := hws _ hcode _ _ X.warmed
  have h3 : (Cond.initialized y.cls).before a A.U = true := hinit _ _ X.warmed
  have h4 : A.cells + (headSpec ws rm).room.cells ≤ R.cells := by rw [show (headSpec ws rm).room.cells = mc from hrc]; exact hp.1
  have h5 : A.slots + (headSpec ws rm).room.slots ≤ R.slots := by rw [show (headSpec ws rm).room.slots = ms from hrs]; exact hp.2.1
  have hPc : Pc a (A.U.calling g mk a) := hblind _ _ _ _ hp.2.2
  obtain ⟨U, Ls, c0, s0⟩ := A
  dsimp only [Pt.U, Pt.locs, Pt.cells, Pt.slots] at h1 h2 h3 h4 h5 X hn hPc ⊢
  obtain ⟨methY, cY, hmY, hcY, -, hlY, -, -, -, -⟩ := Cond.code_spec hn h2
  obtain ⟨kY, hkY, -⟩ := className_of_methodNamed hn
  have hinitY : kY.init = .initialized := Cond.initialized_spec (findClass_of_methodNamed hn) hkY h3
  have h : At U g.method c below := by rw [hg]; exact X.here
  have hlocals9 : W9 + (maxL + 11) + (headSpec ws rm).room.locals ≤ R.locals := hlocals
  have happ : (headSpec ws rm).appliesLoose y e.platform (U.calling g mk a) = true :=
    Spec.appliesLoose_calling (g := g) h hdg hn hkY hinitY
      (X.room_calling (g := g) (R' := (headSpec ws rm).room) hsize hmY hcY hframes (by rw [hlY]; omega) h4 h5) h1
  obtain ⟨mid, hmid⟩ := h.above
  have hfr : (U.setTop g).frames = (.java g :: mid) ++ below := by rw [State.frames_setTop' g h.top, hmid]; rfl
  obtain ⟨o, s₂, hsteps, -, hend, hq⟩ := Steps.callFree hM p X.admits X.cas X.clock (acts := []) hfr happ hPc trivial
  have hq' : vx_Q Qc XC mc ms free a (U.calling g mk a) o s₂ := hq
  rw [State.frames_setTop' g h.top] at hend
  obtain ⟨g₀, hg0⟩ := Option.isSome_iff_exists.mp h.top
  obtain ⟨r, hr⟩ := State.topJava?_eq_some.mp hg0
  have hr' : (({ U with heap := s₂.heap, slotsUsed := s₂.slotsUsed } : State).setVm s₂.vm).frames = .java g₀ :: r := hr
  rcases hq' with ⟨hqc, L, hfe, hL⟩ | ⟨q, rfl, E, ce, L, hx, hce, hcv, hcl, hW₂, hsm, hL⟩
  · obtain ⟨⟨v, rfl⟩, hW₂, e2, q2, q3, q4, q5, q6⟩ := id hfe
    have e3 : s₂ = ({ (U.calling g mk a).setFrames s₂.frames with heap := s₂.heap, slotsUsed := s₂.slotsUsed } : State).setVm s₂.vm := by
      have : s₂ = ({ s₂ with vm := (U.calling g mk a).vm } : State).setVm s₂.vm := rfl
      rw [e2] at this
      exact this
    obtain ⟨c₂, i₂, len₂, hc₂, hd₂, hf₂⟩ := hend
    have hW' : U.WarmedH s₂.vm := hW₂
    have hcc : c₂ = c := by
      have h1 : s₂.code? g.method = U.code? g.method := by
        rw [State.code?_eq, State.code?_eq, hW'.alike.method?]
      exact Option.some.inj (hc₂.symm.trans (h1.trans h.code))
    subst hcc
    have hlen : len₂ = len := by rw [hdg] at hd₂; cases hd₂; rfl
    subst hlen
    have hs₂ : s₂ = (({ U with heap := s₂.heap, slotsUsed := s₂.slotsUsed } : State).setVm s₂.vm).setTop { g with pc := g.pc + len₂, stack := v.toList ++ g.stack } := by
      refine e3.trans ?_
      rw [hf₂, State.calling_eq h.top, State.setFrames_setFrames, State.setTop_of_frames _ hr', hr]
      rfl
    have hsame : U.sameButNew ({ U with heap := s₂.heap, slotsUsed := s₂.slotsUsed } : State) L mc ms := by
      refine ⟨?_, q2, q3, q4, q5, q6⟩
      obtain ⟨t, ht, -⟩ := State.frames_cons hr
      show ({ U with heap := s₂.heap, slotsUsed := s₂.slotsUsed } : State) = { U.setFrames U.frames with heap := s₂.heap, slotsUsed := s₂.slotsUsed }
      rw [State.setFrames_self ht]
    subst hg
    refine Or.inl ⟨v, ⟨(({ U with heap := s₂.heap, slotsUsed := s₂.slotsUsed } : State).setVm s₂.vm), Ls ++ L, c0 + mc, s0 + ms⟩,
      ⟨X.admits, X.cas, X.clock, X.frames, X.room, X.hears, X.method, X.code, (X.here.setHeapUsed s₂.heap s₂.slotsUsed).setVm hW'.alike, X.tail, State.WarmedH.trans X.warmed hW', X.limits, X.bytes, X.same.trans (hsame.setVm s.vm)⟩,
      ⟨g, mk, s₂, L, rfl, rfl, hqc, rfl, hL, rfl, rfl⟩, ?_⟩
    show Steps p.tables e below _ ((({ U with heap := s₂.heap, slotsUsed := s₂.slotsUsed } : State).setVm s₂.vm).setTop { g with pc := g.pc + len₂, stack := v.toList ++ g.stack })
    rw [← hs₂]
    exact hsteps
  · obtain ⟨e2, q2, q3, q4, q5, q6⟩ := id hsm
    have e3 : s₂ = ({ (U.calling g mk a).setFrames s₂.frames with heap := s₂.heap, slotsUsed := s₂.slotsUsed } : State).setVm s₂.vm := by
      have : s₂ = ({ s₂ with vm := (U.calling g mk a).vm } : State).setVm s₂.vm := rfl
      rw [e2] at this
      exact this
    have hf₂ : s₂.frames = .throwing q :: .java g :: U.frames.tail := hend
    have hW' : U.WarmedH s₂.vm := hW₂
    have hs₂ : s₂ = ((({ U with heap := s₂.heap, slotsUsed := s₂.slotsUsed } : State).setVm s₂.vm).setTop g).pushFrame (.throwing q) := by
      refine e3.trans ?_
      rw [hf₂, State.calling_eq h.top, State.setFrames_setFrames, State.pushFrame, State.frames_setTop _ hr', State.setTop_of_frames _ hr', State.setFrames_setFrames, hr]
      rfl
    have hsame : U.sameButNew ({ U with heap := s₂.heap, slotsUsed := s₂.slotsUsed } : State) L mc ms := by
      refine ⟨?_, q2, q3, q4, q5, q6⟩
      obtain ⟨t, ht, -⟩ := State.frames_cons hr
      show ({ U with heap := s₂.heap, slotsUsed := s₂.slotsUsed } : State) = { U.setFrames U.frames with heap := s₂.heap, slotsUsed := s₂.slotsUsed }
      rw [State.setFrames_self ht]
    subst hg
    refine Or.inr ⟨q, ⟨(({ U with heap := s₂.heap, slotsUsed := s₂.slotsUsed } : State).setVm s₂.vm), Ls ++ L, c0 + mc, s0 + ms⟩,
      ⟨X.admits, X.cas, X.clock, X.frames, X.room, X.hears, X.method, X.code, (X.here.setHeapUsed s₂.heap s₂.slotsUsed).setVm hW'.alike, X.tail, State.WarmedH.trans X.warmed hW', X.limits, X.bytes, X.same.trans (hsame.setVm s.vm)⟩,
      ⟨g, mk, s₂, L, E, ce, rfl, rfl, hx, hce, hcv, hcl, rfl, hL, rfl, rfl⟩, ?_⟩
    show Steps p.tables e below _ (((({ U with heap := s₂.heap, slotsUsed := s₂.slotsUsed } : State).setVm s₂.vm).setTop g).pushFrame (.throwing q))
    rw [← hs₂]
    exact hsteps
end Payer
section Calls
variable {p : Program} {l : Launch} {e : Env} {R : Room} {s : State} {m : MethodId} {args : Array Value} {below : List Frame} {meth : Method} {c : Code} {T : State} {locs : List Loc} {cells slots : Nat}
theorem vx_callV (X : Stand p l e R s m args below meth c T locs cells slots) (hexec : p.tables.exec = Jvm.exec) {own C : String} {index : Nat} {y : MethodName} {bytes : ByteArray} {maxL : Nat} {ret : Option FieldType}
    (hown : s.vm.findClass own = some m.cls) (hlink : (Cond.methodLink own index y).before args s = true) (hinst : (Cond.instanceMethod y).before args s = true) (hsel : (Cond.selects C y y).before args s = true)
    (hcode : (Cond.code y bytes maxL ret).before args s = true) (hy : y.cls ≠ "java/lang/invoke/MethodHandle" ∧ y.cls ≠ "java/lang/invoke/VarHandle")
    {W9 : Nat} {Pre : Pt → Array Value → Prop} {Post : Pt → Array Value → Option Value → Pt → Prop} {PostX : Pt → Array Value → Addr → Pt → Prop} (hK : vx_Back l R p e below s args y 3 W9 Pre Post PostX)
    {b : Addr} {cellB : Cell} (hcell : T.heap[b]? = some cellB) (hobj : cellB.vm.isStatics = false) (hcls : s.vm.findClass C = some cellB.cls)
    {g : JFrame} (hg : g.method = m) (hsize : g.locals.size = c.maxLocals) {argsL rest : List Value} (hlen : ∀ sig, parseMethodDescriptor y.desc = some sig → argsL.length = sig.parameters.length)
    (hstack : g.stack = argsL.reverse ++ .ref b :: rest) (hW : 2 * g.monitorRoom + (rest.map fun v => v.category).sum ≤ W9) (hdg : decode c.code g.pc = .ok (.invokevirtual index, 3))
    (hpre : ∀ vm₁, s.WarmedH vm₁ → Pre ⟨T.setVm vm₁, locs, cells, slots⟩ (Value.ref b :: argsL).toArray) :
    (∃ (v : Option Value) (vm₁ : Vm) (B : Pt), s.WarmedH vm₁ ∧ Stand p l e R s m args below meth c B.U B.locs B.cells B.slots ∧ Post ⟨T.setVm vm₁, locs, cells, slots⟩ (Value.ref b :: argsL).toArray v B ∧
      ∀ target, Steps p.tables e below (B.U.setTop { g with pc := g.pc + 3, stack := v.toList ++ rest }) target → Steps p.tables e below (T.setTop g) target) ∨
    (∃ (q : Addr) (vm₁ : Vm) (B : Pt), s.WarmedH vm₁ ∧ Stand p l e R s m args below meth c B.U B.locs B.cells B.slots ∧ PostX ⟨T.setVm vm₁, locs, cells, slots⟩ (Value.ref b :: argsL).toArray q B ∧
      Steps p.tables e below (T.setTop g) ((B.U.setTop { g with stack := rest }).pushFrame (.throwing q))) := by
  obtain ⟨mk, methM, hnamed, hmethM, hstM, habM⟩ := Cond.instanceMethod_spec hinst
  obtain ⟨methM', cM, hmethM', -, -, -, -, -, -, hsigM⟩ := Cond.code_spec hnamed hcode
  cases hmethM.symm.trans hmethM'
  obtain ⟨c2, r2, m2, q1, q2, q3, q4, kP, hkP, hkPi⟩ := Cond.selects_spec hsel
  cases hcls.symm.trans q1
  cases (State.methodFound?_of_named hnamed hy).symm.trans q2
  cases hnamed.symm.trans q3
  have hselP : selectMethod e.platform s.vm cellB.cls mk = .method mk := by rw [Launch.admits_selectMethod X.admits]; exact q4
  obtain ⟨vm₁, X₁, hstep₁⟩ := X.invokevirtual hexec hown hlink hnamed hmethM hstM hkP hkPi hy (a := b) (cell := cellB) hcell
    (fun z h => by rw [h] at hobj; cases hobj) hselP hmethM habM hkP hkPi (g := g) hg (argsL := argsL) (rest := rest) (hlen _ hsigM) hstack hdg
  rcases hK m meth c ⟨T.setVm vm₁, locs, cells, slots⟩ { g with stack := rest } (.invokevirtual index) mk (Value.ref b :: argsL).toArray X₁ hg hsize hdg hW (X₁.named hnamed) (hpre vm₁ X₁.warmed) with ⟨v, B, X', hpost, hsteps⟩ | ⟨q, B, X', hpost, hsteps⟩
  · exact Or.inl ⟨v, vm₁, B, X₁.warmed, X', hpost, fun target h => hstep₁ _ fun acts => by rw [doInvoke_state]; exact hsteps.trans h⟩
  · exact Or.inr ⟨q, vm₁, B, X₁.warmed, X', hpost, hstep₁ _ fun acts => by rw [doInvoke_state]; exact hsteps⟩
theorem vx_callS (X : Stand p l e R s m args below meth c T locs cells slots) (hexec : p.tables.exec = Jvm.exec) {own : String} {index : Nat} {y : MethodName} {bytes : ByteArray} {maxL : Nat} {ret : Option FieldType}
    (hown : s.vm.findClass own = some m.cls) (hlink : (Cond.methodLink own index y).before args s = true) (hstat : (Cond.static y).before args s = true) (hinit : (Cond.initialized y.cls).before args s = true)
    (hcode : (Cond.code y bytes maxL ret).before args s = true) (hy : y.cls ≠ "java/lang/invoke/MethodHandle" ∧ y.cls ≠ "java/lang/invoke/VarHandle")
    {W9 : Nat} {Pre : Pt → Array Value → Prop} {Post : Pt → Array Value → Option Value → Pt → Prop} {PostX : Pt → Array Value → Addr → Pt → Prop} (hK : vx_Back l R p e below s args y 3 W9 Pre Post PostX)
    {g : JFrame} (hg : g.method = m) (hsize : g.locals.size = c.maxLocals) {argsL rest : List Value} (hlen : ∀ sig, parseMethodDescriptor y.desc = some sig → argsL.length = sig.parameters.length)
    (hstack : g.stack = argsL.reverse ++ rest) (hW : 2 * g.monitorRoom + (rest.map fun v => v.category).sum ≤ W9) (hdg : decode c.code g.pc = .ok (.invokestatic index, 3))
    (hpre : ∀ vm₁, s.WarmedH vm₁ → Pre ⟨T.setVm vm₁, locs, cells, slots⟩ argsL.toArray) :
    (∃ (v : Option Value) (vm₁ : Vm) (B : Pt), s.WarmedH vm₁ ∧ Stand p l e R s m args below meth c B.U B.locs B.cells B.slots ∧ Post ⟨T.setVm vm₁, locs, cells, slots⟩ argsL.toArray v B ∧
      ∀ target, Steps p.tables e below (B.U.setTop { g with pc := g.pc + 3, stack := v.toList ++ rest }) target → Steps p.tables e below (T.setTop g) target) ∨
    (∃ (q : Addr) (vm₁ : Vm) (B : Pt), s.WarmedH vm₁ ∧ Stand p l e R s m args below meth c B.U B.locs B.cells B.slots ∧ PostX ⟨T.setVm vm₁, locs, cells, slots⟩ argsL.toArray q B ∧
      Steps p.tables e below (T.setTop g) ((B.U.setTop { g with stack := rest }).pushFrame (.throwing q))) := by
  obtain ⟨mk, hnamed⟩ := Cond.code_named hcode
  obtain ⟨methM, cM, hmethM, -, -, -, -, -, -, hsigM⟩ := Cond.code_spec hnamed hcode
  have hstatic : methM.isStatic = true := Cond.static_spec hnamed hmethM hstat
  obtain ⟨kP, hkP, -⟩ := className_of_methodNamed hnamed
  have hinitP : kP.init = .initialized := Cond.initialized_spec (findClass_of_methodNamed hnamed) hkP hinit
  obtain ⟨vm₁, X₁, hstep₁⟩ := X.invokestatic hexec hown hlink hnamed hmethM hstatic hkP hinitP hy (g := g) hg (argsL := argsL) (rest := rest) (hlen _ hsigM) hstack hdg
  rcases hK m meth c ⟨T.setVm vm₁, locs, cells, slots⟩ { g with stack := rest } (.invokestatic index) mk argsL.toArray X₁ hg hsize hdg hW (X₁.named hnamed) (hpre vm₁ X₁.warmed) with ⟨v, B, X', hpost, hsteps⟩ | ⟨q, B, X', hpost, hsteps⟩
  · exact Or.inl ⟨v, vm₁, B, X₁.warmed, X', hpost, fun target h => hstep₁ _ fun acts => by rw [doInvoke_state]; exact hsteps.trans h⟩
  · exact Or.inr ⟨q, vm₁, B, X₁.warmed, X', hpost, hstep₁ _ fun acts => by rw [doInvoke_state]; exact hsteps⟩
end Calls
theorem vx_cls {s : State} {T : State} {vm₁ : Vm} {E : String} {k : ClassId} (hW : s.WarmedH vm₁) (h : (T.setVm vm₁).vm.findClass E = some k) : s.vm.findClass E = some k := by
  have h1 : vm₁.findClass E = some k := h
  rw [hW.alike.findClass] at h1
  exact h1
/-- the method's frame g, with q thrown over it -/
def vx_W (p : Program) (l : Launch) (e : Env) (R : Room) (s : State) (m : MethodId) (args : Array Value) (below : List Frame) (meth : Method) (c : Code) (H : Heap) (locs : List Loc) (cells slots : Nat) (Q : State → Prop) (g : JFrame) (q : Addr) : Prop :=
  ∀ T : State, T.heap = H → Stand p l e R s m args below meth c T locs cells slots → ∃ t, Steps p.tables e below ((T.setTop g).pushFrame (.throwing q)) t ∧ Q t
def vx_Run (p : Program) (l : Launch) (e : Env) (R : Room) (s : State) (m : MethodId) (args : Array Value) (below : List Frame) (meth : Method) (c : Code) (H : Heap) (locs : List Loc) (cells slots mc ms : Nat) (g : JFrame) (rest : List Value) (Qa : State → Outcome → State → Prop) (XC : String → State → State → Prop) (free : Addr → Prop) : Prop :=
  ∀ T : State, T.heap = H → Stand p l e R s m args below meth c T locs cells slots →
    (∃ (v : Option Value) (st₀ t T' : State) (L : List Loc), st₀.heap = H ∧ Stand p l e R s m args below meth c T' (locs ++ L) (cells + mc) (slots + ms) ∧ (∀ q ∈ L, free q.base) ∧ T'.heap = t.heap ∧ T'.vm = t.vm ∧ Qa st₀ (.returned v) t ∧
      Goes p e below T g T' { g with pc := g.pc + 3, stack := v.toList ++ rest }) ∨
    (∃ (q : Addr) (st₀ t T' : State) (L : List Loc) (E : String) (ce : Cell), st₀.heap = H ∧ Stand p l e R s m args below meth c T' (locs ++ L) (cells + mc) (slots + ms) ∧ (∀ z ∈ L, free z.base) ∧ T'.heap = t.heap ∧ T'.vm = t.vm ∧ XC E st₀ t ∧ t.heap[q]? = some ce ∧ ce.vm = .none ∧ s.vm.findClass E = some ce.cls ∧
      Steps p.tables e below (T.setTop g) ((T'.setTop { g with stack := rest }).pushFrame (.throwing q)))
def vx_X {S : Type} (px : S → Prop) (B : String → S → State → Prop) (A : Nat → Prop) : String → State → State → Prop := fun E st t => ∃ u : S, px u ∧ B E u t ∧ va_F A st t
section Runs
variable {p : Program} {l : Launch} {e : Env} {R : Room} {s : State} {m : MethodId} {args : Array Value} {below : List Frame} {meth : Method} {c : Code} {H : Heap} {locs : List Loc} {cells slots : Nat}
variable {y : MethodName} {bytes cc : ByteArray} {maxL nL mc ms n index : Nat} {ret : Option FieldType} {ws : List Cond} {rm : Room} {Pc : Array Value → State → Prop} {Qc : Array Value → State → Outcome → State → Prop} {XC : String → State → State → Prop} {free : Addr → Prop} {Ts : List Cond} {own C : String} {b : Addr} {As rest : List Value} {g : JFrame}
theorem vx_callBack (cb : CallB R s args own index y bytes maxL ret ws rm mc ms n) (hM : vx_Met l y ws rm Pc Qc XC mc ms free) (hbl : FrameBlind Pc) : vx_Back l R p e below s args y 3 8 (PreOf R mc ms Pc) (PostOf Qc mc ms free) (vx_Post XC mc ms free) := by
  obtain ⟨hrc, hrs, hfr, hlo, hws, hcw, -, hini, -⟩ := cb
  exact vx_back (bytes := bytes) (maxL := maxL) (ret := ret) hM hbl hrc hrs hfr hlo hws hcw (fun a' U hW => word_at hW (Or.inl (by first | rfl | simp [Cond.onTables, Cond.keeps, Cond.steady])) hini)
theorem vx_runV (S : CallFix p m c cc nL s args Ts own) (hM : vx_Met l y ws rm Pc Qc XC mc ms free) (cw : CallW R s args own C index y bytes maxL ret ws rm mc ms n) (hp : PreV s H C b Pc As)
    (hg : g.method = m) (hn : As.length = n) (hsize : g.locals.size = nL) (hstack : g.stack = As.reverse ++ .ref b :: rest) (hW : 2 * g.monitorRoom + (rest.map fun v => v.category).sum ≤ 8) (hdg : decode cc g.pc = .ok (.invokevirtual index, 3)) (hf : cells + mc ≤ R.cells ∧ slots + ms ≤ R.slots) :
    vx_Run p l e R s m args below meth c H locs cells slots mc ms g rest (Qc (Value.ref b :: As).toArray) XC free := by
  have hK : vx_Back l R p e below s args y 3 8 (PreOf R mc ms Pc) (PostOf Qc mc ms free) (vx_Post XC mc ms free) := vx_callBack cw.1 hM hp.1
  obtain ⟨⟨-, -, -, -, -, -, hcode, -, hy, hlen, hl⟩, hin, hse⟩ := cw
  obtain ⟨hx, hb, hml, ho, -⟩ := S
  obtain ⟨-, ⟨cellB, hcB, hoB, hclB⟩, hPc⟩ := hp
  intro T hT X
  rcases vx_callV X hx (C := C) (bytes := bytes) (maxL := maxL) (ret := ret) ho hl hin hse hcode hy hK (by rw [hT]; exact hcB) hoB hclB hg (hsize.trans hml.symm) (argsL := As) (rest := rest) (fun sig h => hn.trans (hlen sig h)) hstack hW (by rw [hb]; exact hdg)
    (fun vm₁ hW₁ => ⟨hf.1, hf.2, hPc (T.setVm vm₁) hT hW₁⟩) with ⟨v, vm₁, ⟨U', l2, c2, s2⟩, hW₁, X', ⟨g', mk, t, L, e1, e2, hq, h1, hL, h2, h3⟩, st⟩ | ⟨q, vm₁, ⟨U', l2, c2, s2⟩, hW₁, X', ⟨g', mk, t, L, E, ce, e1, e2, hq, hce, hcv, hcl, h1, hL, h2, h3⟩, st⟩
  · dsimp only [Pt.U, Pt.locs, Pt.cells, Pt.slots] at X' e1 e2 h1 h2 h3 st
    subst h1; subst h2; subst h3
    exact Or.inl ⟨v, (T.setVm vm₁).calling g' mk (Value.ref b :: As).toArray, t, U', L, hT, X', hL, e1, e2, hq, st⟩
  · dsimp only [Pt.U, Pt.locs, Pt.cells, Pt.slots] at X' e1 e2 h1 h2 h3 st hcl
    subst h1; subst h2; subst h3
    exact Or.inr ⟨q, (T.setVm vm₁).calling g' mk (Value.ref b :: As).toArray, t, U', L, E, ce, hT, X', hL, e1, e2, hq, hce, hcv, vx_cls hW₁ hcl, st⟩
theorem vx_runS (S : CallFix p m c cc nL s args Ts own) (hM : vx_Met l y ws rm Pc Qc XC mc ms free) (cw : CallB R s args own index y bytes maxL ret ws rm mc ms n ∧ (Cond.static y).before args s = true) (hp : PreS s H Pc As)
    (hg : g.method = m) (hn : As.length = n) (hsize : g.locals.size = nL) (hstack : g.stack = As.reverse ++ rest) (hW : 2 * g.monitorRoom + (rest.map fun v => v.category).sum ≤ 8) (hdg : decode cc g.pc = .ok (.invokestatic index, 3)) (hf : cells + mc ≤ R.cells ∧ slots + ms ≤ R.slots) :
    vx_Run p l e R s m args below meth c H locs cells slots mc ms g rest (Qc As.toArray) XC free := by
  have hK : vx_Back l R p e below s args y 3 8 (PreOf R mc ms Pc) (PostOf Qc mc ms free) (vx_Post XC mc ms free) := vx_callBack cw.1 hM hp.1
  obtain ⟨⟨-, -, -, -, -, -, hcode, hini, hy, hlen, hl⟩, hstt⟩ := cw
  obtain ⟨hx, hb, hml, ho, -⟩ := S
  intro T hT X
  rcases vx_callS X hx (bytes := bytes) (maxL := maxL) (ret := ret) ho hl hstt hini hcode hy hK hg (hsize.trans hml.symm) (argsL := As) (rest := rest) (fun sig h => hn.trans (hlen sig h)) hstack hW (by rw [hb]; exact hdg)
    (fun vm₁ hW₁ => ⟨hf.1, hf.2, hp.2 (T.setVm vm₁) hT hW₁⟩) with ⟨v, vm₁, ⟨U', l2, c2, s2⟩, hW₁, X', ⟨g', mk, t, L, e1, e2, hq, h1, hL, h2, h3⟩, st⟩ | ⟨q, vm₁, ⟨U', l2, c2, s2⟩, hW₁, X', ⟨g', mk, t, L, E, ce, e1, e2, hq, hce, hcv, hcl, h1, hL, h2, h3⟩, st⟩
  · dsimp only [Pt.U, Pt.locs, Pt.cells, Pt.slots] at X' e1 e2 h1 h2 h3 st
    subst h1; subst h2; subst h3
    exact Or.inl ⟨v, (T.setVm vm₁).calling g' mk As.toArray, t, U', L, hT, X', hL, e1, e2, hq, st⟩
  · dsimp only [Pt.U, Pt.locs, Pt.cells, Pt.slots] at X' e1 e2 h1 h2 h3 st hcl
    subst h1; subst h2; subst h3
    exact Or.inr ⟨q, (T.setVm vm₁).calling g' mk As.toArray, t, U', L, E, ce, hT, X', hL, e1, e2, hq, hce, hcv, vx_cls hW₁ hcl, st⟩
end Runs
section Rows
variable {p : Program} {l : Launch} {e : Env} {R : Room} {s : State} {m : MethodId} {args : Array Value} {below : List Frame} {meth : Method} {c : Code} {H : Heap} {locs : List Loc} {cells slots : Nat} {Q : State → Prop}
variable {mc ms : Nat} {free : Addr → Prop} {A0 A1 : Nat → Prop} {H0 : Heap} {a : Array Value} {pc : Nat} {ls : Array Slot} {st0 rest : List Value}
theorem vx_keep {st₀ t T' : State} {L : List Loc} (h0 : st₀.heap = H) (e1 : T'.heap = t.heap) (hS : va_S A0 H0 H locs) (hA : ∀ q, q < H.size → A1 q → A0 q) (hf : ∀ q, free q → A0 q) (hL : ∀ q ∈ L, free q.base) (hF : va_F A1 st₀ t) :
    H.size ≤ T'.heap.size ∧ (∀ q : Nat, q < H.size → ¬ A1 q → T'.heap[q]? = H[q]?) ∧ va_S A0 H0 T'.heap (locs ++ L) := by
  obtain ⟨hz, hk⟩ := hF
  rw [h0] at hz hk
  exact ⟨by rw [e1]; exact hz, fun q h1 h2 => by rw [e1]; exact hk q h1 h2,
    ⟨Nat.le_trans hS.1 (by rw [e1]; exact hz), fun q h1 h2 => by rw [e1, hk q (Nat.lt_of_lt_of_le h1 hS.1) (fun z => h2 (hA q (Nat.lt_of_lt_of_le h1 hS.1) z))]; exact hS.2.1 q h1 h2, fun q hq => by
      rcases List.mem_append.mp hq with h | h
      · exact hS.2.2 q h
      · exact hf _ (hL q h)⟩⟩
theorem vx_calli {S SX : Type} {post : Int32 → S → Prop} {px : SX → Prop} {B : S → State → Prop} {BX : String → SX → State → Prop} {AX : Nat → Prop} (hr : vx_Run p l e R s m args below meth c H locs cells slots mc ms (F0 m pc ls st0) rest (va_Qi post B A1 a) (vx_X px BX AX) free) (hS : va_S A0 H0 H locs) (hA : ∀ q, q < H.size → A1 q → A0 q) (hf : ∀ q, free q → A0 q) (hAX : ∀ q, q < H.size → AX q → A0 q)
    (kx : ∀ (E : String) (ce : Cell) (q9 : Addr) (u : SX) (t : State) (H1 : Heap) (locs1 : List Loc), t.heap = H1 → s.vm.Alike t.vm → px u → BX E u t → H.size ≤ H1.size → (∀ q : Nat, q < H.size → ¬ AX q → H1[q]? = H[q]?) → va_S A0 H0 H1 locs1 → H1[q9]? = some ce → ce.vm = .none → s.vm.findClass E = some ce.cls → vx_W p l e R s m args below meth c H1 locs1 (cells + mc) (slots + ms) Q (F0 m pc ls rest) q9)
    (kk : ∀ (r : Int32) (u : S) (t : State) (H1 : Heap) (locs1 : List Loc), t.heap = H1 → s.vm.Alike t.vm → post r u → B u t → H.size ≤ H1.size → (∀ q : Nat, q < H.size → ¬ A1 q → H1[q]? = H[q]?) → va_S A0 H0 H1 locs1 → W p l e R s m args below meth c H1 locs1 (cells + mc) (slots + ms) Q (F0 m (pc + 3) ls (.int r :: rest))) : W p l e R s m args below meth c H locs cells slots Q (F0 m pc ls st0) := by
  intro T hT X
  rcases hr T hT X with ⟨v, st₀, t, T', L, h0, X', hL, e1, e2, ⟨⟨r, u, hv, hp, hb⟩, hF⟩, st⟩ | ⟨q, st₀, t, T', L, E, ce, h0, X', hL, e1, e2, ⟨u, hp, hb, hF⟩, hce, hcv, hcl, st⟩
  · cases hv
    obtain ⟨k1, k2, k3⟩ := vx_keep h0 e1 hS hA hf hL hF
    obtain ⟨t2, a1, b1⟩ := kk r u t T'.heap (locs ++ L) e1.symm (by rw [← e2]; exact X'.warmed.alike) hp hb k1 k2 k3 T' rfl X'
    exact ⟨t2, st t2 a1, b1⟩
  · obtain ⟨k1, k2, k3⟩ := vx_keep h0 e1 hS hAX hf hL hF
    obtain ⟨t2, a1, b1⟩ := kx E ce q u t T'.heap (locs ++ L) e1.symm (by rw [← e2]; exact X'.warmed.alike) hp hb k1 k2 k3 (by rw [e1]; exact hce) hcv hcl T' rfl X'
    exact ⟨t2, st.trans a1, b1⟩
theorem vx_calll {S SX : Type} {post : Int64 → S → Prop} {px : SX → Prop} {B : S → State → Prop} {BX : String → SX → State → Prop} {AX : Nat → Prop} (hr : vx_Run p l e R s m args below meth c H locs cells slots mc ms (F0 m pc ls st0) rest (va_Ql post B A1 a) (vx_X px BX AX) free) (hS : va_S A0 H0 H locs) (hA : ∀ q, q < H.size → A1 q → A0 q) (hf : ∀ q, free q → A0 q) (hAX : ∀ q, q < H.size → AX q → A0 q)
    (kx : ∀ (E : String) (ce : Cell) (q9 : Addr) (u : SX) (t : State) (H1 : Heap) (locs1 : List Loc), t.heap = H1 → s.vm.Alike t.vm → px u → BX E u t → H.size ≤ H1.size → (∀ q : Nat, q < H.size → ¬ AX q → H1[q]? = H[q]?) → va_S A0 H0 H1 locs1 → H1[q9]? = some ce → ce.vm = .none → s.vm.findClass E = some ce.cls → vx_W p l e R s m args below meth c H1 locs1 (cells + mc) (slots + ms) Q (F0 m pc ls rest) q9)
    (kk : ∀ (r : Int64) (u : S) (t : State) (H1 : Heap) (locs1 : List Loc), t.heap = H1 → s.vm.Alike t.vm → post r u → B u t → H.size ≤ H1.size → (∀ q : Nat, q < H.size → ¬ A1 q → H1[q]? = H[q]?) → va_S A0 H0 H1 locs1 → W p l e R s m args below meth c H1 locs1 (cells + mc) (slots + ms) Q (F0 m (pc + 3) ls (.long r :: rest))) : W p l e R s m args below meth c H locs cells slots Q (F0 m pc ls st0) := by
  intro T hT X
  rcases hr T hT X with ⟨v, st₀, t, T', L, h0, X', hL, e1, e2, ⟨⟨r, u, hv, hp, hb⟩, hF⟩, st⟩ | ⟨q, st₀, t, T', L, E, ce, h0, X', hL, e1, e2, ⟨u, hp, hb, hF⟩, hce, hcv, hcl, st⟩
  · cases hv
    obtain ⟨k1, k2, k3⟩ := vx_keep h0 e1 hS hA hf hL hF
    obtain ⟨t2, a1, b1⟩ := kk r u t T'.heap (locs ++ L) e1.symm (by rw [← e2]; exact X'.warmed.alike) hp hb k1 k2 k3 T' rfl X'
    exact ⟨t2, st t2 a1, b1⟩
  · obtain ⟨k1, k2, k3⟩ := vx_keep h0 e1 hS hAX hf hL hF
    obtain ⟨t2, a1, b1⟩ := kx E ce q u t T'.heap (locs ++ L) e1.symm (by rw [← e2]; exact X'.warmed.alike) hp hb k1 k2 k3 (by rw [e1]; exact hce) hcv hcl T' rfl X'
    exact ⟨t2, st.trans a1, b1⟩
theorem vx_callf {S SX : Type} {post : UInt32 → S → Prop} {px : SX → Prop} {B : S → State → Prop} {BX : String → SX → State → Prop} {AX : Nat → Prop} (hr : vx_Run p l e R s m args below meth c H locs cells slots mc ms (F0 m pc ls st0) rest (va_Qf post B A1 a) (vx_X px BX AX) free) (hS : va_S A0 H0 H locs) (hA : ∀ q, q < H.size → A1 q → A0 q) (hf : ∀ q, free q → A0 q) (hAX : ∀ q, q < H.size → AX q → A0 q)
    (kx : ∀ (E : String) (ce : Cell) (q9 : Addr) (u : SX) (t : State) (H1 : Heap) (locs1 : List Loc), t.heap = H1 → s.vm.Alike t.vm → px u → BX E u t → H.size ≤ H1.size → (∀ q : Nat, q < H.size → ¬ AX q → H1[q]? = H[q]?) → va_S A0 H0 H1 locs1 → H1[q9]? = some ce → ce.vm = .none → s.vm.findClass E = some ce.cls → vx_W p l e R s m args below meth c H1 locs1 (cells + mc) (slots + ms) Q (F0 m pc ls rest) q9)
    (kk : ∀ (r : UInt32) (u : S) (t : State) (H1 : Heap) (locs1 : List Loc), t.heap = H1 → s.vm.Alike t.vm → post r u → B u t → H.size ≤ H1.size → (∀ q : Nat, q < H.size → ¬ A1 q → H1[q]? = H[q]?) → va_S A0 H0 H1 locs1 → W p l e R s m args below meth c H1 locs1 (cells + mc) (slots + ms) Q (F0 m (pc + 3) ls (.float r :: rest))) : W p l e R s m args below meth c H locs cells slots Q (F0 m pc ls st0) := by
  intro T hT X
  rcases hr T hT X with ⟨v, st₀, t, T', L, h0, X', hL, e1, e2, ⟨⟨r, u, hv, hp, hb⟩, hF⟩, st⟩ | ⟨q, st₀, t, T', L, E, ce, h0, X', hL, e1, e2, ⟨u, hp, hb, hF⟩, hce, hcv, hcl, st⟩
  · cases hv
    obtain ⟨k1, k2, k3⟩ := vx_keep h0 e1 hS hA hf hL hF
    obtain ⟨t2, a1, b1⟩ := kk r u t T'.heap (locs ++ L) e1.symm (by rw [← e2]; exact X'.warmed.alike) hp hb k1 k2 k3 T' rfl X'
    exact ⟨t2, st t2 a1, b1⟩
  · obtain ⟨k1, k2, k3⟩ := vx_keep h0 e1 hS hAX hf hL hF
    obtain ⟨t2, a1, b1⟩ := kx E ce q u t T'.heap (locs ++ L) e1.symm (by rw [← e2]; exact X'.warmed.alike) hp hb k1 k2 k3 (by rw [e1]; exact hce) hcv hcl T' rfl X'
    exact ⟨t2, st.trans a1, b1⟩
theorem vx_calld {S SX : Type} {post : UInt64 → S → Prop} {px : SX → Prop} {B : S → State → Prop} {BX : String → SX → State → Prop} {AX : Nat → Prop} (hr : vx_Run p l e R s m args below meth c H locs cells slots mc ms (F0 m pc ls st0) rest (va_Qd post B A1 a) (vx_X px BX AX) free) (hS : va_S A0 H0 H locs) (hA : ∀ q, q < H.size → A1 q → A0 q) (hf : ∀ q, free q → A0 q) (hAX : ∀ q, q < H.size → AX q → A0 q)
    (kx : ∀ (E : String) (ce : Cell) (q9 : Addr) (u : SX) (t : State) (H1 : Heap) (locs1 : List Loc), t.heap = H1 → s.vm.Alike t.vm → px u → BX E u t → H.size ≤ H1.size → (∀ q : Nat, q < H.size → ¬ AX q → H1[q]? = H[q]?) → va_S A0 H0 H1 locs1 → H1[q9]? = some ce → ce.vm = .none → s.vm.findClass E = some ce.cls → vx_W p l e R s m args below meth c H1 locs1 (cells + mc) (slots + ms) Q (F0 m pc ls rest) q9)
    (kk : ∀ (r : UInt64) (u : S) (t : State) (H1 : Heap) (locs1 : List Loc), t.heap = H1 → s.vm.Alike t.vm → post r u → B u t → H.size ≤ H1.size → (∀ q : Nat, q < H.size → ¬ A1 q → H1[q]? = H[q]?) → va_S A0 H0 H1 locs1 → W p l e R s m args below meth c H1 locs1 (cells + mc) (slots + ms) Q (F0 m (pc + 3) ls (.double r :: rest))) : W p l e R s m args below meth c H locs cells slots Q (F0 m pc ls st0) := by
  intro T hT X
  rcases hr T hT X with ⟨v, st₀, t, T', L, h0, X', hL, e1, e2, ⟨⟨r, u, hv, hp, hb⟩, hF⟩, st⟩ | ⟨q, st₀, t, T', L, E, ce, h0, X', hL, e1, e2, ⟨u, hp, hb, hF⟩, hce, hcv, hcl, st⟩
  · cases hv
    obtain ⟨k1, k2, k3⟩ := vx_keep h0 e1 hS hA hf hL hF
    obtain ⟨t2, a1, b1⟩ := kk r u t T'.heap (locs ++ L) e1.symm (by rw [← e2]; exact X'.warmed.alike) hp hb k1 k2 k3 T' rfl X'
    exact ⟨t2, st t2 a1, b1⟩
  · obtain ⟨k1, k2, k3⟩ := vx_keep h0 e1 hS hAX hf hL hF
    obtain ⟨t2, a1, b1⟩ := kx E ce q u t T'.heap (locs ++ L) e1.symm (by rw [← e2]; exact X'.warmed.alike) hp hb k1 k2 k3 (by rw [e1]; exact hce) hcv hcl T' rfl X'
    exact ⟨t2, st.trans a1, b1⟩
theorem vx_callv {S SX : Type} {post : S → Prop} {px : SX → Prop} {B : S → State → Prop} {BX : String → SX → State → Prop} {AX : Nat → Prop} (hr : vx_Run p l e R s m args below meth c H locs cells slots mc ms (F0 m pc ls st0) rest (va_Qv post B A1 a) (vx_X px BX AX) free) (hS : va_S A0 H0 H locs) (hA : ∀ q, q < H.size → A1 q → A0 q) (hf : ∀ q, free q → A0 q) (hAX : ∀ q, q < H.size → AX q → A0 q)
    (kx : ∀ (E : String) (ce : Cell) (q9 : Addr) (u : SX) (t : State) (H1 : Heap) (locs1 : List Loc), t.heap = H1 → s.vm.Alike t.vm → px u → BX E u t → H.size ≤ H1.size → (∀ q : Nat, q < H.size → ¬ AX q → H1[q]? = H[q]?) → va_S A0 H0 H1 locs1 → H1[q9]? = some ce → ce.vm = .none → s.vm.findClass E = some ce.cls → vx_W p l e R s m args below meth c H1 locs1 (cells + mc) (slots + ms) Q (F0 m pc ls rest) q9)
    (kk : ∀ (u : S) (t : State) (H1 : Heap) (locs1 : List Loc), t.heap = H1 → s.vm.Alike t.vm → post u → B u t → H.size ≤ H1.size → (∀ q : Nat, q < H.size → ¬ A1 q → H1[q]? = H[q]?) → va_S A0 H0 H1 locs1 → W p l e R s m args below meth c H1 locs1 (cells + mc) (slots + ms) Q (F0 m (pc + 3) ls (rest))) : W p l e R s m args below meth c H locs cells slots Q (F0 m pc ls st0) := by
  intro T hT X
  rcases hr T hT X with ⟨v, st₀, t, T', L, h0, X', hL, e1, e2, ⟨⟨u, hv, hp, hb⟩, hF⟩, st⟩ | ⟨q, st₀, t, T', L, E, ce, h0, X', hL, e1, e2, ⟨u, hp, hb, hF⟩, hce, hcv, hcl, st⟩
  · cases hv
    obtain ⟨k1, k2, k3⟩ := vx_keep h0 e1 hS hA hf hL hF
    obtain ⟨t2, a1, b1⟩ := kk u t T'.heap (locs ++ L) e1.symm (by rw [← e2]; exact X'.warmed.alike) hp hb k1 k2 k3 T' rfl X'
    exact ⟨t2, st t2 a1, b1⟩
  · obtain ⟨k1, k2, k3⟩ := vx_keep h0 e1 hS hAX hf hL hF
    obtain ⟨t2, a1, b1⟩ := kx E ce q u t T'.heap (locs ++ L) e1.symm (by rw [← e2]; exact X'.warmed.alike) hp hb k1 k2 k3 (by rw [e1]; exact hce) hcv hcl T' rfl X'
    exact ⟨t2, st.trans a1, b1⟩
/-- caught by the row x of this method's table; the rows ahead don't take it -/
theorem vx_catch {own name : String} {E : String} {ce : Cell} {q : Addr} (hown : s.vm.findClass own = some m.cls) (pre : List ExceptionTableEntry) (x : ExceptionTableEntry) (suf : List ExceptionTableEntry) (hsplit : c.exceptionTable.toList = pre ++ x :: suf)
    (hpass : ∀ z ∈ pre, covers z pc = false ∨ (z.catchType ≠ 0 ∧ ∃ nm : String, (Cond.classLink own z.catchType nm).before args s = true ∧ va_Nc E nm s)) (hx : covers x pc = true) (h0 : x.catchType ≠ 0)
    (hlink : (Cond.classLink own x.catchType name).before args s = true) (hcast : (Cond.castable E name).before args s = true) (hcell : H[q]? = some ce) (hv : ce.vm = .none) (hcl : s.vm.findClass E = some ce.cls)
    (kk : W p l e R s m args below meth c H locs cells slots Q (F0 m x.handlerPc ls [.ref q])) : vx_W p l e R s m args below meth c H locs cells slots Q (F0 m pc ls rest) q := by
  intro T hT X
  have hpl : e.platform.magicAccessors = ({} : Platform).magicAccessors := by rw [X.admits.platform]
  obtain ⟨c3, c4, hc3, hc4, hasg⟩ := Cond.castable_spec hcast
  cases Option.some.inj (hc3.symm.trans hcl)
  obtain ⟨c5, hc5, hcl5⟩ := Cond.classLink_spec hown hlink e.platform hpl
  cases Option.some.inj (hc4.symm.trans hc5)
  obtain ⟨vm', X', st⟩ := X.thenCaughtThrough q (g := F0 m pc ls rest) rfl (Steps.refl _) (by rw [hT]; exact hcell) (by rw [hv]; rfl) (by obtain ⟨k9, h9, -⟩ := Vm.findClass_spec hcl; exact ⟨k9, h9⟩) pre x suf hsplit
    (fun z hz => by
      rcases hpass z hz with h | ⟨hz0, nm, hl1, hn1⟩
      · exact Or.inl h
      · obtain ⟨c6, hc6, hcl6⟩ := Cond.classLink_spec hown hl1 e.platform hpl
        obtain ⟨a8, b8, h1, h2, h3⟩ := hn1
        cases Option.some.inj (h1.symm.trans hcl)
        cases Option.some.inj (h2.symm.trans hc6)
        exact Or.inr ⟨hz0, _, hcl6, h3⟩) hx (Or.inr ⟨h0, c4, hcl5, hasg⟩)
  obtain ⟨t, a1, b1⟩ := kk (T.setVm vm') hT X'
  exact ⟨t, st.trans a1, b1⟩
end Rows
section Ends
variable {p : Program} {l : Launch} {e : Env} {R : Room} {s : State} {m : MethodId} {args : Array Value} {below : List Frame} {meth : Method} {c : Code} {H : Heap} {locs : List Loc} {cells slots : Nat} {Q : State → Prop}
variable {mc ms : Nat} {free : Addr → Prop} {A0 A1 : Nat → Prop} {H0 : Heap} {a : Array Value} {ls : Array Slot} {st0 rest : List Value}
variable {Qc : Array Value → State → Outcome → State → Prop} {XC : String → State → State → Prop}
/-- what a body that may throw owes at its end -/
def vx_MQ (below : List Frame) (Qc : Array Value → State → Outcome → State → Prop) (XC : String → State → State → Prop) (a : Array Value) (s : State) (mc ms : Nat) (free : Addr → Prop) : State → Prop := fun t =>
  ∃ o, t.status = .running ∧ Ended t below o ∧ vx_Q Qc XC mc ms free a s o t
theorem vx_ret {g : JFrame} {mc ms : Nat} (k : W p l e R s m args below meth c H locs cells slots (MQ below Qc args s mc ms free) g) : W p l e R s m args below meth c H locs cells slots (vx_MQ below Qc XC args s mc ms free) g := by
  intro T hT X
  obtain ⟨t, a1, o, b1, b2, b3, b4⟩ := k T hT X
  exact ⟨t, a1, o, b1, b2, Or.inl ⟨b3, b4⟩⟩
/-- not caught here: it goes on to the caller -/
theorem vx_widen {g : JFrame} {q : Addr} {k n : Nat} (h1 : cells ≤ k) (h2 : slots ≤ n) (kk : vx_W p l e R s m args below meth c H locs k n Q g q) : vx_W p l e R s m args below meth c H locs cells slots Q g q := fun T hT X => kk T hT (stand_widen X h1 h2)
theorem vx_out {pc : Nat} {E : String} {ce : Cell} {q : Addr} {mc ms : Nat} (hout : ∀ x ∈ c.exceptionTable.toList, covers x pc = false) (hlocks : meth.locks = false) (hcell : H[q]? = some ce) (hv : ce.vm = .none) (hcl : s.vm.findClass E = some ce.cls)
    (hx : ∀ t : State, t.heap = H → s.vm.Alike t.vm → XC E s t) (hf : ∀ z ∈ locs, free z.base) (hc : cells ≤ mc) (hs : slots ≤ ms) :
    vx_W p l e R s m args below meth c H locs cells slots (vx_MQ below Qc XC args s mc ms free) (F0 m pc ls rest) q := by
  intro T hT X
  obtain ⟨st1, hrun, hend, hW, hsm⟩ := X.leaveThrown q (g := F0 m pc ls rest) rfl rfl rfl hout hlocks
  have hcell9 : (T.setFrames (.throwing q :: below)).heap[q]? = some ce := by
    show T.heap[q]? = some ce
    rw [hT]; exact hcell
  exact ⟨_, st1, .threw q, hrun, hend, Or.inr ⟨q, rfl, E, ce, locs, hx _ hT hW.alike, hcell9, hv, hcl, hW, hsm.mono hc hs, hf⟩⟩
theorem vx_frame {U : State} {k n : Nat} (h : s.sameButNew ({ U with vm := s.vm } : State) locs k n) : s.heap.size ≤ U.heap.size ∧ ∀ q : Nat, q < s.heap.size → (∀ z ∈ locs, z.base ≠ q) → U.heap[q]? = s.heap[q]? := by
  obtain ⟨-, h2, -, -, -, h6⟩ := h
  refine ⟨h2, fun q hq hz => ?_⟩
  obtain ⟨c9, e1, e2, e3, e4⟩ := h6 q _ (Array.getElem?_eq_getElem hq)
  have hs : c9.slots = (s.heap[q]).slots := Array.ext_getElem? fun i => e4 i fun hm => hz _ hm rfl
  have h9 : c9 = s.heap[q] := by
    rw [hs] at e2
    exact e2
  have e5 : U.heap[q]? = some c9 := e1
  rw [e5, h9, Array.getElem?_eq_getElem hq]
/-- the words of a throw but the four that speak of the heap -/
def vx_no (w : Cond) : Bool := decide (w ≠ .isRef (.static Bundle.tN "UNASSIGNED_STACK" Bundle.steD)) && decide (w ≠ .isRef (.static Bundle.tN "SUPPRESSED_SENTINEL" Bundle.listD)) && decide (w ≠ .laysStatic Bundle.tN "UNASSIGNED_STACK" Bundle.steD) && decide (w ≠ .laysStatic Bundle.tN "SUPPRESSED_SENTINEL" Bundle.listD)
def vx_at0 (own : String) (ic : Nat) (X : String) (names : List String) : List Cond := (Bundle.ownAtoms0 own ic X names).filter vx_no
def vx_atS (own : String) (ic : Nat) (X : String) (names : List String) : List Cond := (Bundle.ownAtoms own ic X names).filter vx_no
/-- a word that the tables alone decide, or a good one -/
def vx_ot (w : Cond) : Bool := w.onTables || goodWord w
theorem vx_ot_at {args a' : Array Value} {s U : State} {w : Cond} (hW : s.WarmedH U.vm) (hvm : s.vm = U.vm) (hg : vx_ot w = true) (h : w.before args s = true) : w.before a' U = true := by
  simp only [vx_ot, Bool.or_eq_true] at hg
  rcases hg with hg | hg
  · exact va_tabs hg hvm h
  · exact word_at hW (good_of_word hg) h
/-- a list's words: the good ones out of the method's own list, the others by premises of their own -/
theorem vx_hat {args : Array Value} {s : State} {L B : List Cond} (h1 : ∀ w ∈ L.filter goodWord, w.before args s = true) (h2 : ∀ w ∈ L.filter (fun w => !goodWord w), w ∈ B) (h3 : ∀ w ∈ B, w.before args s = true) : ∀ w ∈ L, w.before args s = true := by
  intro w hw
  by_cases g : goodWord w = true
  · exact h1 w (List.mem_filter.mpr ⟨hw, g⟩)
  · refine h3 w (h2 w (List.mem_filter.mpr ⟨hw, ?_⟩))
    show (!goodWord w) = true
    cases hgw : goodWord w
    · rfl
    · exact absurd hgw g
theorem vx_c {args : Array Value} {s : State} {w : Cond} {B : List Cond} (h : w.before args s = true) (t : ∀ w ∈ B, w.before args s = true) : ∀ w' ∈ w :: B, w'.before args s = true := fun w' h' => (List.mem_cons.mp h').elim (fun e => by rw [e]; exact h) (t w')
theorem vx_n {args : Array Value} {s : State} : ∀ w ∈ ([] : List Cond), w.before args s = true := fun _ h => nomatch h
theorem vx_own {args : Array Value} {s : State} {L : List Cond} (h1 : ∀ w ∈ L.filter vx_no, w.before args s = true)
    (hU : (Cond.isRef (.static Bundle.tN "UNASSIGNED_STACK" Bundle.steD)).before args s = true) (hN : (Cond.isRef (.static Bundle.tN "SUPPRESSED_SENTINEL" Bundle.listD)).before args s = true)
    (lU : (Cond.laysStatic Bundle.tN "UNASSIGNED_STACK" Bundle.steD).before args s = true) (lN : (Cond.laysStatic Bundle.tN "SUPPRESSED_SENTINEL" Bundle.listD).before args s = true) : ∀ w ∈ L, w.before args s = true := by
  intro w hw
  by_cases e1 : w = .isRef (.static Bundle.tN "UNASSIGNED_STACK" Bundle.steD)
  · rw [e1]; exact hU
  · by_cases e2 : w = .isRef (.static Bundle.tN "SUPPRESSED_SENTINEL" Bundle.listD)
    · rw [e2]; exact hN
    · by_cases e3 : w = .laysStatic Bundle.tN "UNASSIGNED_STACK" Bundle.steD
      · rw [e3]; exact lU
      · by_cases e4 : w = .laysStatic Bundle.tN "SUPPRESSED_SENTINEL" Bundle.listD
        · rw [e4]; exact lN
        · exact h1 w (List.mem_filter.mpr ⟨hw, by unfold vx_no; rw [decide_eq_true e1, decide_eq_true e2, decide_eq_true e3, decide_eq_true e4]; rfl⟩)
/-- where a static field lies, its class's statics cell in H -/
def vx_L (C n d : String) (A : Nat → Prop) (U : State) (H : Heap) : Prop := ∃ (c : ClassId) (k : Class) (i : Nat) (f : Field) (a : Nat) (cell : Cell), U.vm.findClass C = some c ∧ U.fieldFound? C n d = some (c, k, i, f) ∧ f.isStatic = true ∧ k.statics = some a ∧ H[a]? = some cell ∧ cell.vm.isStatics = true ∧ cell.cls = c ∧ f.slot < cell.slots.size ∧ k.staticTypes[f.slot]? = some f.type ∧ ¬ A a
theorem vx_L.moved {C n d : String} {A : Nat → Prop} {u U : State} {H : Heap} (hvm : u.vm.Alike U.vm) (h : vx_L C n d A u H) : vx_L C n d A U H := by
  obtain ⟨c, k, i, f, a, cell, h1, h2, h3, h4, h5, h6, h7, h8, h9, h10⟩ := h
  obtain ⟨k', hi', he⟩ := State.fieldFound?_setVm hvm h2
  exact ⟨c, k', i, f, a, cell, by rw [hvm.findClass]; exact h1, hi', h3, by rw [he]; exact h4, h5, h6, h7, h8, by rw [he]; exact h9, h10⟩
theorem vx_L.kept {C n d : String} {A : Nat → Prop} {U : State} {H H1 : Heap} (h : vx_L C n d A U H) (hq : ∀ a : Nat, a < H.size → ¬ A a → H1[a]? = H[a]?) : vx_L C n d A U H1 := by
  obtain ⟨c, k, i, f, a, cell, h1, h2, h3, h4, h5, h6, h7, h8, h9, h10⟩ := h
  exact ⟨c, k, i, f, a, cell, h1, h2, h3, h4, by rw [hq a (Array.getElem?_eq_some_iff.mp h5).1 h10]; exact h5, h6, h7, h8, h9, h10⟩
theorem vx_L.narrow {C n d : String} {A B : Nat → Prop} {U : State} {H : Heap} (h : vx_L C n d A U H) (hAB : ∀ q, B q → A q) : vx_L C n d B U H := by
  obtain ⟨c, k, i, f, a, cell, h1, h2, h3, h4, h5, h6, h7, h8, h9, h10⟩ := h
  exact ⟨c, k, i, f, a, cell, h1, h2, h3, h4, h5, h6, h7, h8, h9, fun z => h10 (hAB _ z)⟩
theorem vx_L.word {C n d : String} {A : Nat → Prop} {s : State} {args : Array Value} (h : vx_L C n d A s s.heap) : (Cond.laysStatic C n d).before args s = true := by
  obtain ⟨c, k, i, f, a, cell, h1, h2, h3, h4, h5, h6, h7, h8, h9, -⟩ := h
  show (Cond.laysStatic C n d).holds args s none s [] = true
  exact Cond.laysStatic_of h1 h2 h3 h4 h5 h6 h7 h8 h9
/-- .. and what it holds: null or some reference -/
def vx_Zq (C n d : String) (A : Nat → Prop) (U : State) (H : Heap) : Prop := va_Zq C n d A U H ∧ vx_L C n d A U H
theorem vx_Zq.moved {C n d : String} {A : Nat → Prop} {u U : State} {H : Heap} (hvm : u.vm.Alike U.vm) (h : vx_Zq C n d A u H) : vx_Zq C n d A U H := ⟨va_Zq.moved hvm h.1, vx_L.moved hvm h.2⟩
theorem vx_Zq.kept {C n d : String} {A : Nat → Prop} {U : State} {H H1 : Heap} (h : vx_Zq C n d A U H) (hq : ∀ a : Nat, a < H.size → ¬ A a → H1[a]? = H[a]?) : vx_Zq C n d A U H1 := ⟨va_Zq.kept h.1 hq, vx_L.kept h.2 hq⟩
theorem vx_Zq.narrow {C n d : String} {A B : Nat → Prop} {U : State} {H : Heap} (h : vx_Zq C n d A U H) (hAB : ∀ q, B q → A q) : vx_Zq C n d B U H := ⟨va_Zq.narrow h.1 hAB, vx_L.narrow h.2 hAB⟩
theorem vx_Zqof {args : Array Value} {s : State} {C n d : String} {A : Nat → Prop} (hl : (Cond.laysStatic C n d).before args s = true) (hini : (Cond.initialized C).before args s = true) (h : (Cond.isRef (.static C n d)).before args s = true) (hA : ∀ a : Nat, a < s.heap.size → ¬ A a) : vx_Zq C n d A s s.heap := by
  refine ⟨va_Zqof hl hini h hA, ?_⟩
  obtain ⟨c, k, i, f, a, cell, h1, h2, h3, h4, h5, h6, h7, h8, h9⟩ := Cond.laysStatic_spec hl
  exact ⟨c, k, i, f, a, cell, h1, h2, h3, h4, h5, h6, h7, h8, h9, hA a (Array.getElem?_eq_some_iff.mp h5).1⟩
theorem vx_isRef {C n d : String} {v : Value} {A : Nat → Prop} {s : State} {args : Array Value} (h : va_Z C n d v A s s.heap) (hv : v.isRef = true) : (Cond.isRef (.static C n d)).before args s = true := by
  obtain ⟨cf, kf, fi, f, a, cell, h1, h2, h3, h4, h5, h6, h7, -⟩ := h
  have he : (Term.static C n d).eval args s none [] s = some v := by
    simp [Term.eval, State.fieldNamed?, h1, h2, h4, h5, h6, h7]
  simp only [Cond.before, Cond.holds, Cond.value, he]
  cases v <;> simp_all [Value.isRef]
theorem vx_isRefq {C n d : String} {A : Nat → Prop} {s : State} {args : Array Value} (h : va_Zq C n d A s s.heap) : (Cond.isRef (.static C n d)).before args s = true := by
  rcases h with h | ⟨t, h⟩
  · exact vx_isRef h rfl
  · exact vx_isRef h rfl
/-- the same frame, seen from here: as if the method were called anew in this heap -/
theorem vx_rebase {T : State} (X : Stand p l e R s m args below meth c T locs cells slots) {R' : Room} (hf : R'.frames ≤ R.frames) (hl : R'.locals ≤ R.locals) (hc : cells + R'.cells ≤ R.cells) (hs : slots + R'.slots ≤ R.slots) :
    Stand p l e R' ((T.setVm s.vm).setFrames (.invoking m args :: below)) m args below meth c T [] 0 0 := by
  have htop : (T.setVm s.vm).topJava?.isSome := X.here.top
  have hF : ((T.setVm s.vm).setFrames (.invoking m args :: below)).frames = .invoking m args :: below := State.frames_setFrames _ (State.cur_lt_of_top htop)
  obtain ⟨g₀, hg0⟩ := Option.isSome_iff_exists.mp htop
  obtain ⟨r, hr⟩ := State.topJava?_eq_some.mp hg0
  have hl9 : e.platform.stackLimits (T.setVm s.vm).me = e.platform.stackLimits s.me := X.limits
  have hb9 : (T.setVm s.vm).me.stackBytes = s.me.stackBytes := X.bytes
  refine ⟨X.admits, X.cas, X.clock, hF, ?_, X.hears, X.method, X.code, X.here, X.tail, X.warmed, ?_, ?_, ?_⟩
  · have h := X.room
    have hU : ((T.setVm s.vm).setFrames (.invoking m args :: below)).localsInUse = s.localsInUse := by
      rw [State.localsInUse_invoking hF (meth := meth) (c := c) X.method X.code, State.localsInUse_invoking X.frames X.method X.code]
    simp only [State.hasRoom, Bool.and_eq_true, decide_eq_true_eq] at h ⊢
    obtain ⟨⟨⟨⟨h1, h2, h3, h4, h5, h6⟩, h7⟩, h8⟩, h9⟩ := h
    rw [X.frames, List.length_cons] at h2 h3
    have q1 := X.heapSize
    have q2 := X.used
    simp only [hF, hU, List.length_cons, State.stackLimits_setFrames, State.stackBytes_setFrames, hl9, hb9]
    refine ⟨⟨⟨⟨by omega, by omega, by omega, by omega, by omega, h6⟩, ?_⟩, ?_⟩, X.book⟩
    · show T.heap.size + R'.cells ≤ e.platform.maxCells
      omega
    · show T.slotsUsed + R'.slots ≤ e.platform.maxSlots
      omega
  · rw [State.stackLimits_setFrames]; rfl
  · rw [State.stackBytes_setFrames]; rfl
  · refine ⟨?_, Nat.le_refl _, Nat.le_refl _, ?_, ?_, fun a c9 h9 => ⟨c9, h9, rfl, rfl, fun _ _ => rfl⟩⟩
    · obtain ⟨t, ht, -⟩ := State.frames_cons hr
      show T.setVm s.vm = { ((T.setVm s.vm).setFrames (.invoking m args :: below)).setFrames (T.setVm s.vm).frames with heap := T.heap, slotsUsed := T.slotsUsed }
      rw [State.setFrames_setFrames, State.setFrames_self ht]
      rfl
    · show T.slotsUsed = T.slotsUsed + ((T.heap.toList.drop T.heap.size).map (·.slots.size)).sum
      rw [List.drop_eq_nil_of_le (Nat.le_of_eq Array.length_toList)]
      rfl
    · show ((T.heap.toList.drop T.heap.size).map (·.slots.size)).sum ≤ 0
      rw [List.drop_eq_nil_of_le (Nat.le_of_eq Array.length_toList)]
      exact Nat.le_refl _
/-- 'throw new E()': new; dup; invokespecial; athrow -/
theorem vx_throw0 {cc : ByteArray} {pc : Nat} (hexec : p.tables.exec = Jvm.exec) (hb : c.code = cc) (hl : l.stackTraces = false) {own cls : String} {names : List String} {ik ic mc ms : Nat} {A : Nat → Prop}
    (hown : s.vm.findClass own = some m.cls) (hcls : Bundle.fit cls = true) (hnames : ∀ n ∈ names, Bundle.fit n = true)
    (hk : (Cond.classLink own ik cls).before args s = true) (hini : (Cond.initialized cls).before args s = true) (hat : ∀ w ∈ vx_at0 own ic cls names, w.before args s = true)
    (hgood : ∀ w ∈ Cond.classLink own ik cls :: Cond.initialized cls :: vx_at0 own ic cls names, vx_ot w = true)
    (hU : vx_Zq Bundle.tN "UNASSIGNED_STACK" Bundle.steD A s s.heap) (hN : vx_Zq Bundle.tN "SUPPRESSED_SENTINEL" Bundle.listD A s s.heap) (hS : va_S A s.heap H locs) (hsize : ls.size = c.maxLocals)
    (d0 : decode cc pc = .ok (.new ik, 3)) (d3 : decode cc (pc + 3) = .ok (.dup, 1)) (d4 : decode cc (pc + 4) = .ok (.invokespecial ic, 3)) (d7 : decode cc (pc + 7) = .ok (.athrow, 1))
    (hout : ∀ x ∈ c.exceptionTable.toList, covers x (pc + 7) = false)
    (hRframes : names.length + 3 < R.frames) (hRlocals : (rest.map fun v => v.category).sum + (13 * (names.length + 1) + 42) ≤ R.locals) (hRcells : cells + 1 ≤ R.cells) (hRslots : slots + 6 ≤ R.slots) (hlocks : meth.locks = false)
    (hx : ∀ t : State, s.vm.Alike t.vm → H.size ≤ t.heap.size → (∀ q : Nat, q < H.size → t.heap[q]? = H[q]?) → XC cls s t)
    (hf : ∀ z ∈ locs, free z.base) (hc : cells + 1 ≤ mc) (hs : slots + 6 ≤ ms) :
    W p l e R s m args below meth c H locs cells slots (vx_MQ below Qc XC args s mc ms free) (F0 m pc ls rest) := by
  intro T hT X
  have htr : e.platform.stackTraces = false := (show e.platform.stackTraces = l.stackTraces by rw [X.admits.platform]).trans hl
  have Y := vx_rebase X (R' := { frames := R.frames, locals := R.locals, cells := 1, slots := 6 }) (Nat.le_refl _) (Nat.le_refl _) hRcells hRslots
  obtain ⟨s', hA⟩ : ∃ z, z = (T.setVm s.vm).setFrames (.invoking m args :: below) := ⟨_, rfl⟩
  rw [← hA] at Y
  have hvm : s'.vm = s.vm := by rw [hA]; rfl
  have hhp : s'.heap = H := by rw [hA]; exact hT
  have hW0 : s.WarmedH s'.vm := by rw [hvm]; exact State.WarmedH.refl s
  have hat' : ∀ w ∈ vx_at0 own ic cls names, w.before args s' = true := fun w hw => vx_ot_at hW0 hvm.symm (hgood w (List.mem_cons_of_mem _ (List.mem_cons_of_mem _ hw))) (hat w hw)
  have hk' : (Cond.classLink own ik cls).before args s' = true := vx_ot_at hW0 hvm.symm (hgood _ List.mem_cons_self) hk
  have hini' : (Cond.initialized cls).before args s' = true := vx_ot_at hW0 hvm.symm (hgood _ (List.mem_cons_of_mem _ List.mem_cons_self)) hini
  have hU' : vx_Zq Bundle.tN "UNASSIGNED_STACK" Bundle.steD A s' s'.heap := by rw [hhp]; exact vx_Zq.moved hW0.alike (hU.kept hS.2.1)
  have hN' : vx_Zq Bundle.tN "SUPPRESSED_SENTINEL" Bundle.listD A s' s'.heap := by rw [hhp]; exact vx_Zq.moved hW0.alike (hN.kept hS.2.1)
  have h : ∀ w ∈ Bundle.ownAtoms0 own ic cls names, w.before args s' = true := vx_own hat' (vx_isRefq hU'.1) (vx_isRefq hN'.1) hU'.2.word hN'.2.word
  have hown' : s'.vm.findClass own = some m.cls := by rw [hvm]; exact hown
  have hins : (Cond.instantiable cls 6).before args s' = true := h _ (by simp [Bundle.ownAtoms0])
  obtain ⟨vm₁, cX, kX, hfX, hkX, -, -, X₁, st1⟩ := Y.newCold hexec (own := own) (C := cls) (index := ik) (n := 6) hown' hk' hins hini'
    (g := F0 m pc ls rest) rfl (by rw [hb]; exact d0) (Nat.le_refl _) (Nat.le_refl _)
  generalize hT1 : (T.setVm vm₁).pushCell { cls := cX, slots := kX.instanceTypes.map defaultValue, vm := .none } = T1 at X₁ st1
  have hcat : (Value.ref T.heap.size).category = 1 := rfl
  have hcellA : T1.heap[T.heap.size]? = some (freshCell cX kX) := by rw [← hT1]; exact State.heap_pushCell_size _ _
  have d3' : decode c.code (pc + 3) = .ok (.dup, 1) := by rw [hb]; exact d3
  obtain ⟨U, hsteps, hrun, hend, hW, hsame, ce, hce, hO⟩ := X₁.ctorThrow0 hexec htr (own := own) (cls := cls) (names := names) (ic := ic) hown' hcls hnames h (fun x hx => nomatch hx) hfX hkX hcellA (by rw [hhp, hT]; exact Nat.le_refl _)
    (g := { method := m, pc := pc + 4, locals := ls, stack := .ref T.heap.size :: .ref T.heap.size :: rest, locked := none }) rfl hsize rfl rfl (rest := rest) rfl
    (by rw [hb]; exact d4) (by rw [hb]; exact d7) hout hRframes (by simp only [List.map_cons, List.sum_cons, hcat]; omega) hlocks
  obtain ⟨f1, f2⟩ := vx_frame hsame
  rw [hhp] at f1 f2
  have hWs : s.WarmedH U.vm := State.WarmedH.trans hW0 hW
  have hcl : s.vm.findClass cls = some ce.cls := by
    have h9 := hO.cls
    rw [hvm] at h9
    exact h9
  have hall : s.sameButNew ({ U with vm := s.vm } : State) locs mc ms := by
    subst hA
    obtain ⟨e1, e2⟩ := hsame
    rw [State.setFrames_setFrames] at e1
    have h2 : (T.setVm s.vm).sameButNew ({ U with vm := s.vm } : State) [] (0 + 1) (0 + 6) := ⟨e1, e2⟩
    have h3 := X.same.trans h2
    rw [List.append_nil] at h3
    exact h3.mono hc hs
  refine ⟨U, ?_, .threw T.heap.size, hrun, hend, Or.inr ⟨T.heap.size, rfl, cls, ce, locs, hx U hWs.alike f1 (fun q hq => f2 q hq (fun z hz => nomatch hz)), hce, hO.vm, hcl, hWs, hall, hf⟩⟩
  refine st1 _ ?_
  show Steps p.tables e below (T1.setTop { method := m, pc := pc + 3, locals := ls, stack := .ref T.heap.size :: rest, locked := none }) _
  jvm_step X₁.here [X₁.here.top, hexec, d3', Value.category]
  exact hsteps
/-- 'throw new E("text")': new; dup; ldc; invokespecial; athrow -/
theorem vx_throwS {cc : ByteArray} {pc : Nat} (hexec : p.tables.exec = Jvm.exec) (hb : c.code = cc) (hl : l.stackTraces = false) {own cls text : String} {names : List String} {ik is ic mc ms sa : Nat} {A : Nat → Prop}
    (hown : s.vm.findClass own = some m.cls) (hcls : Bundle.fit cls = true) (hnames : ∀ n ∈ names, Bundle.fit n = true)
    (hk : (Cond.classLink own ik cls).before args s = true) (hini : (Cond.initialized cls).before args s = true) (hstr : vk_R own is text sa s) (hat : ∀ w ∈ vx_atS own ic cls names, w.before args s = true)
    (hgood : ∀ w ∈ Cond.classLink own ik cls :: Cond.initialized cls :: vx_atS own ic cls names, vx_ot w = true)
    (hU : vx_Zq Bundle.tN "UNASSIGNED_STACK" Bundle.steD A s s.heap) (hN : vx_Zq Bundle.tN "SUPPRESSED_SENTINEL" Bundle.listD A s s.heap) (hS : va_S A s.heap H locs) (hsize : ls.size = c.maxLocals)
    (d0 : decode cc pc = .ok (.new ik, 3)) (d3 : decode cc (pc + 3) = .ok (.dup, 1)) (d4 : decode cc (pc + 4) = .ok (.ldc is, 2)) (d6 : decode cc (pc + 6) = .ok (.invokespecial ic, 3)) (d9 : decode cc (pc + 9) = .ok (.athrow, 1))
    (hout : ∀ x ∈ c.exceptionTable.toList, covers x (pc + 9) = false)
    (hRframes : names.length + 3 < R.frames) (hRlocals : (rest.map fun v => v.category).sum + (13 * (names.length + 1) + 43) ≤ R.locals) (hRcells : cells + 1 ≤ R.cells) (hRslots : slots + 6 ≤ R.slots) (hlocks : meth.locks = false)
    (hx : ∀ t : State, s.vm.Alike t.vm → H.size ≤ t.heap.size → (∀ q : Nat, q < H.size → t.heap[q]? = H[q]?) → XC cls s t)
    (hf : ∀ z ∈ locs, free z.base) (hc : cells + 1 ≤ mc) (hs : slots + 6 ≤ ms) :
    W p l e R s m args below meth c H locs cells slots (vx_MQ below Qc XC args s mc ms free) (F0 m pc ls rest) := by
  intro T hT X
  have htr : e.platform.stackTraces = false := (show e.platform.stackTraces = l.stackTraces by rw [X.admits.platform]).trans hl
  have Y := vx_rebase X (R' := { frames := R.frames, locals := R.locals, cells := 1, slots := 6 }) (Nat.le_refl _) (Nat.le_refl _) hRcells hRslots
  obtain ⟨s', hA⟩ : ∃ z, z = (T.setVm s.vm).setFrames (.invoking m args :: below) := ⟨_, rfl⟩
  rw [← hA] at Y
  have hvm : s'.vm = s.vm := by rw [hA]; rfl
  have hhp : s'.heap = H := by rw [hA]; exact hT
  have hW0 : s.WarmedH s'.vm := by rw [hvm]; exact State.WarmedH.refl s
  have hat' : ∀ w ∈ vx_atS own ic cls names, w.before args s' = true := fun w hw => vx_ot_at hW0 hvm.symm (hgood w (List.mem_cons_of_mem _ (List.mem_cons_of_mem _ hw))) (hat w hw)
  have hk' : (Cond.classLink own ik cls).before args s' = true := vx_ot_at hW0 hvm.symm (hgood _ List.mem_cons_self) hk
  have hini' : (Cond.initialized cls).before args s' = true := vx_ot_at hW0 hvm.symm (hgood _ (List.mem_cons_of_mem _ List.mem_cons_self)) hini
  have hU' : vx_Zq Bundle.tN "UNASSIGNED_STACK" Bundle.steD A s' s'.heap := by rw [hhp]; exact vx_Zq.moved hW0.alike (hU.kept hS.2.1)
  have hN' : vx_Zq Bundle.tN "SUPPRESSED_SENTINEL" Bundle.listD A s' s'.heap := by rw [hhp]; exact vx_Zq.moved hW0.alike (hN.kept hS.2.1)
  have h : ∀ w ∈ Bundle.ownAtoms own ic cls names, w.before args s' = true := vx_own hat' (vx_isRefq hU'.1) (vx_isRefq hN'.1) hU'.2.word hN'.2.word
  have hown' : s'.vm.findClass own = some m.cls := by rw [hvm]; exact hown
  have hins : (Cond.instantiable cls 6).before args s' = true := h _ (by simp [Bundle.ownAtoms])
  obtain ⟨vm₁, cX, kX, hfX, hkX, -, -, X₁, st1⟩ := Y.newCold hexec (own := own) (C := cls) (index := ik) (n := 6) hown' hk' hins hini'
    (g := F0 m pc ls rest) rfl (by rw [hb]; exact d0) (Nat.le_refl _) (Nat.le_refl _)
  generalize hT1 : (T.setVm vm₁).pushCell { cls := cX, slots := kX.instanceTypes.map defaultValue, vm := .none } = T1 at X₁ st1
  have hcat : (Value.ref T.heap.size).category = 1 := rfl
  have hcellA : T1.heap[T.heap.size]? = some (freshCell cX kX) := by rw [← hT1]; exact State.heap_pushCell_size _ _
  have d3' : decode c.code (pc + 3) = .ok (.dup, 1) := by rw [hb]; exact d3
  have d4' : decode c.code (pc + 4) = .ok (.ldc is, 2) := by rw [hb]; exact d4
  have hstr' : vk_R own is text sa s' := vk_R.warm hW0 hstr
  obtain ⟨U, hsteps, hrun, hend, hW, hsame, ce, hce, hO⟩ := X₁.ctorThrowS hexec htr (own := own) (cls := cls) (names := names) (ic := ic) hown' hcls hnames h (fun x hx => nomatch hx) hfX hkX hcellA (by rw [hhp, hT]; exact Nat.le_refl _) (msg := .ref sa) rfl
    (g := { method := m, pc := pc + 6, locals := ls, stack := .ref sa :: .ref T.heap.size :: .ref T.heap.size :: rest, locked := none }) rfl hsize rfl rfl (rest := rest) rfl
    (by rw [hb]; exact d6) (by rw [hb]; exact d9) hout hRframes (by simp only [List.map_cons, List.sum_cons, hcat]; omega) hlocks
  obtain ⟨f1, f2⟩ := vx_frame hsame
  rw [hhp] at f1 f2
  have hWs : s.WarmedH U.vm := State.WarmedH.trans hW0 hW
  have hcl : s.vm.findClass cls = some ce.cls := by
    have h9 := hO.cls
    rw [hvm] at h9
    exact h9
  have hall : s.sameButNew ({ U with vm := s.vm } : State) locs mc ms := by
    subst hA
    obtain ⟨e1, e2⟩ := hsame
    rw [State.setFrames_setFrames] at e1
    have h2 : (T.setVm s.vm).sameButNew ({ U with vm := s.vm } : State) [] (0 + 1) (0 + 6) := ⟨e1, e2⟩
    have h3 := X.same.trans h2
    rw [List.append_nil] at h3
    exact h3.mono hc hs
  refine ⟨U, ?_, .threw T.heap.size, hrun, hend, Or.inr ⟨T.heap.size, rfl, cls, ce, locs, hx U hWs.alike f1 (fun q hq => f2 q hq (fun z hz => nomatch hz)), hce, hO.vm, hcl, hWs, hall, hf⟩⟩
  refine st1 _ ?_
  show Steps p.tables e below (T1.setTop { method := m, pc := pc + 3, locals := ls, stack := .ref T.heap.size :: rest, locked := none }) _
  jvm_step X₁.here [X₁.here.top, hexec, d3', Value.category]
  exact X₁.ldcString hexec (own := own) (text := text) (index := is) (a := sa) hown' hstr'.1 hstr'.2
    (g := { method := m, pc := pc + 4, locals := ls, stack := .ref T.heap.size :: .ref T.heap.size :: rest, locked := none }) rfl d4' _ hsteps
/-- 'throw new E("text")', the text by a wide index -/
theorem vx_throwSW {cc : ByteArray} {pc : Nat} (hexec : p.tables.exec = Jvm.exec) (hb : c.code = cc) (hl : l.stackTraces = false) {own cls text : String} {names : List String} {ik is ic mc ms sa : Nat} {A : Nat → Prop}
    (hown : s.vm.findClass own = some m.cls) (hcls : Bundle.fit cls = true) (hnames : ∀ n ∈ names, Bundle.fit n = true)
    (hk : (Cond.classLink own ik cls).before args s = true) (hini : (Cond.initialized cls).before args s = true) (hstr : vk_R own is text sa s) (hat : ∀ w ∈ vx_atS own ic cls names, w.before args s = true)
    (hgood : ∀ w ∈ Cond.classLink own ik cls :: Cond.initialized cls :: vx_atS own ic cls names, vx_ot w = true)
    (hU : vx_Zq Bundle.tN "UNASSIGNED_STACK" Bundle.steD A s s.heap) (hN : vx_Zq Bundle.tN "SUPPRESSED_SENTINEL" Bundle.listD A s s.heap) (hS : va_S A s.heap H locs) (hsize : ls.size = c.maxLocals)
    (d0 : decode cc pc = .ok (.new ik, 3)) (d3 : decode cc (pc + 3) = .ok (.dup, 1)) (d4 : decode cc (pc + 4) = .ok (.ldc_w is, 3)) (d7 : decode cc (pc + 7) = .ok (.invokespecial ic, 3)) (d10 : decode cc (pc + 10) = .ok (.athrow, 1))
    (hout : ∀ x ∈ c.exceptionTable.toList, covers x (pc + 10) = false)
    (hRframes : names.length + 3 < R.frames) (hRlocals : (rest.map fun v => v.category).sum + (13 * (names.length + 1) + 43) ≤ R.locals) (hRcells : cells + 1 ≤ R.cells) (hRslots : slots + 6 ≤ R.slots) (hlocks : meth.locks = false)
    (hx : ∀ t : State, s.vm.Alike t.vm → H.size ≤ t.heap.size → (∀ q : Nat, q < H.size → t.heap[q]? = H[q]?) → XC cls s t)
    (hf : ∀ z ∈ locs, free z.base) (hc : cells + 1 ≤ mc) (hs : slots + 6 ≤ ms) :
    W p l e R s m args below meth c H locs cells slots (vx_MQ below Qc XC args s mc ms free) (F0 m pc ls rest) := by
  intro T hT X
  have htr : e.platform.stackTraces = false := (show e.platform.stackTraces = l.stackTraces by rw [X.admits.platform]).trans hl
  have Y := vx_rebase X (R' := { frames := R.frames, locals := R.locals, cells := 1, slots := 6 }) (Nat.le_refl _) (Nat.le_refl _) hRcells hRslots
  obtain ⟨s', hA⟩ : ∃ z, z = (T.setVm s.vm).setFrames (.invoking m args :: below) := ⟨_, rfl⟩
  rw [← hA] at Y
  have hvm : s'.vm = s.vm := by rw [hA]; rfl
  have hhp : s'.heap = H := by rw [hA]; exact hT
  have hW0 : s.WarmedH s'.vm := by rw [hvm]; exact State.WarmedH.refl s
  have hat' : ∀ w ∈ vx_atS own ic cls names, w.before args s' = true := fun w hw => vx_ot_at hW0 hvm.symm (hgood w (List.mem_cons_of_mem _ (List.mem_cons_of_mem _ hw))) (hat w hw)
  have hk' : (Cond.classLink own ik cls).before args s' = true := vx_ot_at hW0 hvm.symm (hgood _ List.mem_cons_self) hk
  have hini' : (Cond.initialized cls).before args s' = true := vx_ot_at hW0 hvm.symm (hgood _ (List.mem_cons_of_mem _ List.mem_cons_self)) hini
  have hU' : vx_Zq Bundle.tN "UNASSIGNED_STACK" Bundle.steD A s' s'.heap := by rw [hhp]; exact vx_Zq.moved hW0.alike (hU.kept hS.2.1)
  have hN' : vx_Zq Bundle.tN "SUPPRESSED_SENTINEL" Bundle.listD A s' s'.heap := by rw [hhp]; exact vx_Zq.moved hW0.alike (hN.kept hS.2.1)
  have h : ∀ w ∈ Bundle.ownAtoms own ic cls names, w.before args s' = true := vx_own hat' (vx_isRefq hU'.1) (vx_isRefq hN'.1) hU'.2.word hN'.2.word
  have hown' : s'.vm.findClass own = some m.cls := by rw [hvm]; exact hown
  have hins : (Cond.instantiable cls 6).before args s' = true := h _ (by simp [Bundle.ownAtoms])
  obtain ⟨vm₁, cX, kX, hfX, hkX, -, -, X₁, st1⟩ := Y.newCold hexec (own := own) (C := cls) (index := ik) (n := 6) hown' hk' hins hini'
    (g := F0 m pc ls rest) rfl (by rw [hb]; exact d0) (Nat.le_refl _) (Nat.le_refl _)
  generalize hT1 : (T.setVm vm₁).pushCell { cls := cX, slots := kX.instanceTypes.map defaultValue, vm := .none } = T1 at X₁ st1
  have hcat : (Value.ref T.heap.size).category = 1 := rfl
  have hcellA : T1.heap[T.heap.size]? = some (freshCell cX kX) := by rw [← hT1]; exact State.heap_pushCell_size _ _
  have d3' : decode c.code (pc + 3) = .ok (.dup, 1) := by rw [hb]; exact d3
  have d4' : decode c.code (pc + 4) = .ok (.ldc_w is, 3) := by rw [hb]; exact d4
  have hstr' : vk_R own is text sa s' := vk_R.warm hW0 hstr
  obtain ⟨U, hsteps, hrun, hend, hW, hsame, ce, hce, hO⟩ := X₁.ctorThrowS hexec htr (own := own) (cls := cls) (names := names) (ic := ic) hown' hcls hnames h (fun x hx => nomatch hx) hfX hkX hcellA (by rw [hhp, hT]; exact Nat.le_refl _) (msg := .ref sa) rfl
    (g := { method := m, pc := pc + 7, locals := ls, stack := .ref sa :: .ref T.heap.size :: .ref T.heap.size :: rest, locked := none }) rfl hsize rfl rfl (rest := rest) rfl
    (by rw [hb]; exact d7) (by rw [hb]; exact d10) hout hRframes (by simp only [List.map_cons, List.sum_cons, hcat]; omega) hlocks
  obtain ⟨f1, f2⟩ := vx_frame hsame
  rw [hhp] at f1 f2
  have hWs : s.WarmedH U.vm := State.WarmedH.trans hW0 hW
  have hcl : s.vm.findClass cls = some ce.cls := by
    have h9 := hO.cls
    rw [hvm] at h9
    exact h9
  have hall : s.sameButNew ({ U with vm := s.vm } : State) locs mc ms := by
    subst hA
    obtain ⟨e1, e2⟩ := hsame
    rw [State.setFrames_setFrames] at e1
    have h2 : (T.setVm s.vm).sameButNew ({ U with vm := s.vm } : State) [] (0 + 1) (0 + 6) := ⟨e1, e2⟩
    have h3 := X.same.trans h2
    rw [List.append_nil] at h3
    exact h3.mono hc hs
  refine ⟨U, ?_, .threw T.heap.size, hrun, hend, Or.inr ⟨T.heap.size, rfl, cls, ce, locs, hx U hWs.alike f1 (fun q hq => f2 q hq (fun z hz => nomatch hz)), hce, hO.vm, hcl, hWs, hall, hf⟩⟩
  refine st1 _ ?_
  show Steps p.tables e below (T1.setTop { method := m, pc := pc + 3, locals := ls, stack := .ref T.heap.size :: rest, locked := none }) _
  jvm_step X₁.here [X₁.here.top, hexec, d3', Value.category]
  exact X₁.ldcStringW hexec (own := own) (text := text) (index := is) (a := sa) hown' hstr'.1 hstr'.2
    (g := { method := m, pc := pc + 4, locals := ls, stack := .ref T.heap.size :: .ref T.heap.size :: rest, locked := none }) rfl d4' _ hsteps
end Ends
section Bodies
variable {l : Launch}
theorem vx_ofW {y : MethodName} {ws ws' : List Cond} {rm : Room} {Pc : Array Value → State → Prop} {Qc : Array Value → State → Outcome → State → Prop} {XC : String → State → State → Prop} {mc ms : Nat} {free : Addr → Prop} {cc : ByteArray} {maxL : Nat} {ret : Option FieldType}
    (hy : plainName y.cls = true) (hw : ws = Cond.code y cc maxL ret :: ws')
    (body : ∀ p e s m args below meth c s₁, BodyLoose p l y (headSpec ws rm) cc maxL ret e s m args below meth c s₁ → c.maxLocals = maxL → (∀ x ∈ c.exceptionTable.toList, False) → Pc args s →
      W p l e (headSpec ws rm).room s m args below meth c s.heap [] 0 0 (vx_MQ below Qc XC args s mc ms free) (entryFrame m args maxL)) : vx_Met l y ws rm Pc Qc XC mc ms free := by
  refine MetFree.of_bodyS (code := cc) (maxLocals := maxL) (ret := ret) hy ?_ ?_
  · intro args s m h hn
    obtain ⟨meth, c, h1, h2, h3, h4, h5, h6, -, -⟩ := Cond.code_spec hn (atoms_spec (ws := ws) h _ (by rw [hw]; exact List.mem_cons_self))
    exact ⟨meth, c, h1, h2, h3, h4, h5, h6⟩
  · intro p e s m args below meth c s₁ B hml hP _
    have hh0 : s₁.heap = s.heap := by rw [B.state]; rfl
    have ht : ∀ x ∈ c.exceptionTable.toList, False := by
      obtain ⟨meth9, c9, h1, h2, -, -, -, -, h7, -⟩ := Cond.code_spec B.named (atoms_spec (ws := ws) B.pre _ (by rw [hw]; exact List.mem_cons_self))
      cases Option.some.inj (h1.symm.trans B.method)
      cases Option.some.inj (h2.symm.trans (Stand.of_body B).code)
      intro x hx
      rw [Array.isEmpty_iff.mp h7] at hx
      cases hx
    obtain ⟨t, a1, o, b1, b2, b3⟩ := body p e s m args below meth c s₁ B hml ht hP s₁ hh0 (Stand.of_body B)
    exact ⟨t, o, a1, b1, b2, b3⟩
/-- the table of a body with handlers -/
theorem vx_table {p : Program} {x y : MethodName} {S : Spec} {cc bytes : ByteArray} {maxL maxL' : Nat} {ret ret' : Option FieldType} {e : Env} {s s₁ : State} {m : MethodId} {args : Array Value} {below : List Frame} {meth : Method} {c : Code} {hh : List (Nat × Nat × Nat × Nat)}
    (B : BodyLoose p l y S cc maxL ret e s m args below meth c s₁) (h : (Cond.codeWith y bytes maxL' ret' hh).before args s = true) : c.exceptionTable.toList = tableOf hh := by
  obtain ⟨m9, meth9, c9, hn9, h1, h2, -, -, h6, -⟩ := Cond.codeWith_spec h
  cases Option.some.inj (hn9.symm.trans B.named)
  cases Option.some.inj (h1.symm.trans B.method)
  cases Option.some.inj (h2.symm.trans (Stand.of_body B).code)
  rw [← h6, table_eq]
end Bodies
end VXA
/-! ===== END ===== -/
/-! ===== BEGIN a static call of a method with an exception table ===== -/
section VXS
variable {p : Program} {l : Launch} {e : Env} {R : Room} {s : State} {m : MethodId} {args : Array Value} {below : List Frame} {meth : Method} {c : Code} {T : State} {H : Heap} {locs : List Loc} {cells slots : Nat}
abbrev vx_CSW (R : Room) (s : State) (args : Array Value) (own : String) (index : Nat) (y : MethodName) (bytes : ByteArray) (maxL : Nat) (ret : Option FieldType) (hh : List (Nat × Nat × Nat × Nat)) (ws : List Cond) (rm : Room) (mc ms n : Nat) : Prop :=
  (rm.cells = mc ∧ rm.slots = ms ∧ rm.frames + 1 ≤ R.frames ∧ 8 + (maxL + 11) + rm.locals ≤ R.locals ∧ (∀ w ∈ ws, ∀ (a' : Array Value) (U : State), s.WarmedH U.vm → w.before a' U = true) ∧ Cond.codeWith y bytes maxL ret hh ∈ ws) ∧
  (Cond.codeWith y bytes maxL ret hh).before args s = true ∧ (Cond.initialized y.cls).before args s = true ∧ (y.cls ≠ "java/lang/invoke/MethodHandle" ∧ y.cls ≠ "java/lang/invoke/VarHandle") ∧
  (∀ sig, parseMethodDescriptor y.desc = some sig → n = sig.parameters.length) ∧ (Cond.methodLink own index y).before args s = true ∧ (Cond.static y).before args s = true
theorem vx_cwSW {own : String} {index maxL mc ms : Nat} {y : MethodName} {bytes : ByteArray} {ret : Option FieldType} {hh : List (Nat × Nat × Nat × Nat)} {Ts ws ws' : List Cond} {rm : Room} (n : Nat) (ht : ∀ w ∈ Ts, w.before args s = true) (hT : GoodIn Ts (va_wsS own index y ws)) (hw : ws = Cond.codeWith y bytes maxL ret hh :: ws') (hrc : rm.cells = mc) (hrs : rm.slots = ms)
    (hd : y.cls ≠ "java/lang/invoke/MethodHandle" ∧ y.cls ≠ "java/lang/invoke/VarHandle" ∧ (parseMethodDescriptor y.desc).map (fun d => d.parameters.length) = some n) (hR : rm.frames + 1 ≤ R.frames ∧ 8 + (maxL + 11) + rm.locals ≤ R.locals) :
    vx_CSW R s args own index y bytes maxL ret hh ws rm mc ms n := by
  have ok : ∀ w ∈ va_wsS own index y ws, w.before args s = true := fun w h => ht w (hT w h).1
  have hG : GoodIn Ts ws := fun w h => hT w (by unfold va_wsS; exact List.mem_append_right _ h)
  have hc : Cond.codeWith y bytes maxL ret hh ∈ ws := by rw [hw]; exact List.mem_cons_self
  refine ⟨⟨hrc, hrs, hR.1, hR.2, pay_in ht hG, hc⟩, ht _ (hG _ hc).1, ok _ (by simp [va_wsS]), ⟨hd.1, hd.2.1⟩, fun sig h => ?_, ok _ (by simp [va_wsS]), ok _ (by simp [va_wsS])⟩
  have h2 := hd.2.2
  rw [h] at h2
  exact (Option.some.inj h2).symm
theorem vx_callSW (X : Stand p l e R s m args below meth c T locs cells slots) (hexec : p.tables.exec = Jvm.exec) {own : String} {index : Nat} {y : MethodName} {bytes : ByteArray} {maxL : Nat} {ret : Option FieldType} {hh : List (Nat × Nat × Nat × Nat)}
    (hown : s.vm.findClass own = some m.cls) (hlink : (Cond.methodLink own index y).before args s = true) (hstat : (Cond.static y).before args s = true) (hinit : (Cond.initialized y.cls).before args s = true)
    (hcode : (Cond.codeWith y bytes maxL ret hh).before args s = true) (hy : y.cls ≠ "java/lang/invoke/MethodHandle" ∧ y.cls ≠ "java/lang/invoke/VarHandle")
    {W9 : Nat} {Pre : Pt → Array Value → Prop} {Post : Pt → Array Value → Option Value → Pt → Prop} (hK : Back l R p e below s args y 3 W9 Pre Post)
    {g : JFrame} (hg : g.method = m) (hsize : g.locals.size = c.maxLocals) {argsL rest : List Value} (hlen : ∀ sig, parseMethodDescriptor y.desc = some sig → argsL.length = sig.parameters.length)
    (hstack : g.stack = argsL.reverse ++ rest) (hW : 2 * g.monitorRoom + (rest.map fun v => v.category).sum ≤ W9) (hdg : decode c.code g.pc = .ok (.invokestatic index, 3))
    (hpre : ∀ vm₁, s.WarmedH vm₁ → Pre ⟨T.setVm vm₁, locs, cells, slots⟩ argsL.toArray) :
    ∃ (v : Option Value) (vm₁ : Vm) (B : Pt), s.WarmedH vm₁ ∧ Stand p l e R s m args below meth c B.U B.locs B.cells B.slots ∧ Post ⟨T.setVm vm₁, locs, cells, slots⟩ argsL.toArray v B ∧
      ∀ target, Steps p.tables e below (B.U.setTop { g with pc := g.pc + 3, stack := v.toList ++ rest }) target → Steps p.tables e below (T.setTop g) target := by
  obtain ⟨mk, methM, cM, hnamed, hmethM, -, -, -, -, -, -, hsigM⟩ := Cond.codeWith_spec hcode
  have hstatic : methM.isStatic = true := Cond.static_spec hnamed hmethM hstat
  obtain ⟨kP, hkP, -⟩ := className_of_methodNamed hnamed
  have hinitP : kP.init = .initialized := Cond.initialized_spec (findClass_of_methodNamed hnamed) hkP hinit
  obtain ⟨vm₁, X₁, hstep₁⟩ := X.invokestatic hexec hown hlink hnamed hmethM hstatic hkP hinitP hy (g := g) hg (argsL := argsL) (rest := rest) (hlen _ hsigM) hstack hdg
  obtain ⟨v, B, X', hpost, hsteps⟩ := hK m meth c ⟨T.setVm vm₁, locs, cells, slots⟩ { g with stack := rest } (.invokestatic index) mk argsL.toArray X₁ hg hsize hdg hW (X₁.named hnamed) (hpre vm₁ X₁.warmed)
  exact ⟨v, vm₁, B, X₁.warmed, X', hpost, fun target h => hstep₁ _ fun acts => by rw [doInvoke_state]; exact hsteps.trans h⟩
theorem vx_runSW {y : MethodName} {bytes cc : ByteArray} {maxL nL mc ms n index : Nat} {ret : Option FieldType} {hh : List (Nat × Nat × Nat × Nat)} {ws : List Cond} {rm : Room} {Pc : Array Value → State → Prop} {Qc : Array Value → State → Outcome → State → Prop} {free : Addr → Prop} {Ts : List Cond} {own : String} {As rest : List Value} {g : JFrame}
    (S : CallFix p m c cc nL s args Ts own) (hM : Met l y ws rm Pc Qc mc ms free) (cw : vx_CSW R s args own index y bytes maxL ret hh ws rm mc ms n) (hp : PreS s H Pc As)
    (hg : g.method = m) (hn : As.length = n) (hsize : g.locals.size = nL) (hstack : g.stack = As.reverse ++ rest) (hW : 2 * g.monitorRoom + (rest.map fun v => v.category).sum ≤ 8) (hdg : decode cc g.pc = .ok (.invokestatic index, 3)) (hf : cells + mc ≤ R.cells ∧ slots + ms ≤ R.slots) :
    va_Run p l e R s m args below meth c H locs cells slots mc ms g rest (Qc As.toArray) (free) := by
  obtain ⟨⟨hrc, hrs, hfr, hlo, hws, hcw⟩, hcode, hini, hy, hlen, hl, hstt⟩ := cw
  have hK : Back l R p e below s args y 3 8 (PreOf R mc ms Pc) (PostOf Qc mc ms free) := va_backW (hh := hh) (bytes := bytes) (maxL := maxL) (ret := ret) hM hp.1 hrc hrs hfr hlo hws hcw (fun a' U hW => word_at hW (Or.inl (by first | rfl | simp [Cond.onTables, Cond.keeps, Cond.steady])) hini)
  obtain ⟨hx, hb, hml, ho, -⟩ := S
  intro T hT X
  obtain ⟨v, vm₁, ⟨U', l2, c2, s2⟩, hW₁, X', ⟨g', mk, t, L, e1, e2, hq, h1, hL, h2, h3⟩, st⟩ := vx_callSW X hx (hh := hh) (bytes := bytes) (maxL := maxL) (ret := ret) ho hl hstt hini hcode hy hK hg (hsize.trans hml.symm) (argsL := As) (rest := rest) (fun sig h => hn.trans (hlen sig h)) hstack hW (by rw [hb]; exact hdg)
    (fun vm₁ hW₁ => ⟨hf.1, hf.2, hp.2 (T.setVm vm₁) hT hW₁⟩)
  dsimp only [Pt.U, Pt.locs, Pt.cells, Pt.slots] at X' e1 e2 h1 h2 h3 st
  subst h1; subst h2; subst h3
  exact ⟨v, (T.setVm vm₁).calling g' mk As.toArray, t, U', L, hT, X', hL, e1, e2, hq, st⟩
/-- not caught here, past rows that name other classes: it goes on to the caller -/
theorem vx_outP {p : Program} {l : Launch} {e : Env} {R : Room} {s : State} {m : MethodId} {args : Array Value} {below : List Frame} {meth : Method} {c : Code} {H : Heap} {locs : List Loc} {cells slots : Nat} {free : Addr → Prop} {ls : Array Slot} {rest : List Value} {Qc : Array Value → State → Outcome → State → Prop} {XC : String → State → State → Prop}
    {pc : Nat} {own E : String} {ce : Cell} {q : Addr} {mc ms : Nat} (hown : s.vm.findClass own = some m.cls) (hlocks : meth.locks = false)
    (hpass : ∀ z ∈ c.exceptionTable.toList, covers z pc = false ∨ (z.catchType ≠ 0 ∧ ∃ nm : String, (Cond.classLink own z.catchType nm).before args s = true ∧ va_Nc E nm s)) (hcell : H[q]? = some ce) (hv : ce.vm = .none) (hcl : s.vm.findClass E = some ce.cls)
    (hx : ∀ t : State, t.heap = H → s.vm.Alike t.vm → XC E s t) (hf : ∀ z ∈ locs, free z.base) (hc : cells ≤ mc) (hs : slots ≤ ms) :
    vx_W p l e R s m args below meth c H locs cells slots (vx_MQ below Qc XC args s mc ms free) (F0 m pc ls rest) q := by
  intro T hT X
  have hpl : e.platform.magicAccessors = ({} : Platform).magicAccessors := by rw [X.admits.platform]
  obtain ⟨vm', hW', X', st⟩ := X.outThrough hlocks q (g := F0 m pc ls rest) rfl rfl rfl (cell := ce) (by rw [hT]; exact hcell) (by rw [hv]; rfl)
    (by obtain ⟨k9, h9, -⟩ := Vm.findClass_spec hcl; exact ⟨k9, h9⟩) (fun z hz => by
      rcases hpass z hz with h | ⟨hz0, nm, hl1, hn1⟩
      · exact Or.inl h
      · obtain ⟨c6, hc6, hcl6⟩ := Cond.classLink_spec hown hl1 e.platform hpl
        obtain ⟨a8, b8, h1, h2, h3⟩ := hn1
        cases Option.some.inj (h1.symm.trans hcl)
        cases Option.some.inj (h2.symm.trans hc6)
        exact Or.inr ⟨hz0, _, hcl6, h3⟩)
  obtain ⟨g₀, hfr⟩ := X'.frames_eq
  have hcell9 : ((T.setVm vm').setFrames (.throwing q :: below)).heap[q]? = some ce := by
    show T.heap[q]? = some ce
    rw [hT]; exact hcell
  have hend : Ended ((T.setVm vm').setFrames (.throwing q :: below)) below (.threw q) := State.frames_setFrames _ (State.cur_lt_of_frames hfr)
  refine ⟨(T.setVm vm').setFrames (.throwing q :: below), ?_, .threw q, X'.here.running, hend, Or.inr ⟨q, rfl, E, ce, locs, hx _ hT (X'.ends _).1.alike, hcell9, hv, hcl, (X'.ends _).1, (X'.ends _).2.mono hc hs, hf⟩⟩
  rw [X.pushThrowing_eq]
  exact st
/-- a thing of a world lies in the heap -/
theorem vx_lt {D : va_G} {cl : List vw_C} {ws : va_W} {H1 : Heap} (h : va_P D cl ws H1) {k : Nat} {q : Nat × va_E} (hk : ws[k]? = some q) : q.1 < H1.size := (h k q hk).lt
end VXS
/-! ===== END ===== -/
/-! ===== BEGIN methods with a table of their own: called by a name, returning or throwing ===== -/
section VXH
/-! vx_backW, vx_callVX, vx_callSX, vx_callVW, vx_runVW, vx_runVX, vx_runSX, vx_ofWH follow the same proofs as their sisters above (Free/Laws.lean, Shelf42/LK1.lean); vx_outP calls Shelf42/NT130.lean (outThrough). -/
section
variable {l : Launch} {R : Room} {p : Program} {e : Env} {below : List Frame} {s : State} {sargs : Array Value} {y : MethodName} {len W9 : Nat}
theorem vx_backW {ws : List Cond} {rm : Room} {Pc : Array Value → State → Prop} {Qc : Array Value → State → Outcome → State → Prop} {XC : String → State → State → Prop} {mc ms : Nat} {free : Addr → Prop} {bytes : ByteArray} {maxL : Nat} {ret : Option FieldType} {hh : List (Nat × Nat × Nat × Nat)}
    (hM : vx_Met l y ws rm Pc Qc XC mc ms free) (hblind : FrameBlind Pc) (hrc : rm.cells = mc) (hrs : rm.slots = ms)
    (hframes : rm.frames + 1 ≤ R.frames) (hlocals : W9 + (maxL + 11) + rm.locals ≤ R.locals)
    (hws : ∀ w ∈ ws, ∀ a' U, s.WarmedH U.vm → w.before a' U = true) (hcode : Cond.codeWith y bytes maxL ret hh ∈ ws) (hinit : ∀ a' U, s.WarmedH U.vm → (Cond.initialized y.cls).before a' U = true) :
    vx_Back l R p e below s sargs y len W9 (PreOf R mc ms Pc) (PostOf Qc mc ms free) (vx_Post XC mc ms free) := by
  intro m meth c A g ig mk a X hg hsize hdg hW hn hp
  have h1 : (headSpec ws rm).pre.before a A.U = true := atoms_intro fun w hw => hws w hw _ _ X.warmed
  have h2 : (Cond.codeWith y bytes maxL ret hh).before a A.U = true := hws _ hcode _ _ X.warmed
  have h3 : (Cond.initialized y.cls).before a A.U = true := hinit _ _ X.warmed
  have h4 : A.cells + (headSpec ws rm).room.cells ≤ R.cells := by rw [show (headSpec ws rm).room.cells = mc from hrc]; exact hp.1
  have h5 : A.slots + (headSpec ws rm).room.slots ≤ R.slots := by rw [show (headSpec ws rm).room.slots = ms from hrs]; exact hp.2.1
  have hPc : Pc a (A.U.calling g mk a) := hblind _ _ _ _ hp.2.2
  obtain ⟨U, Ls, c0, s0⟩ := A
  dsimp only [Pt.U, Pt.locs, Pt.cells, Pt.slots] at h1 h2 h3 h4 h5 X hn hPc ⊢
  obtain ⟨m9, methY, cY, hn9, hmY, hcY, -, hlY, -⟩ := Cond.codeWith_spec h2
  cases Option.some.inj (hn9.symm.trans hn)
  obtain ⟨kY, hkY, -⟩ := className_of_methodNamed hn
  have hinitY : kY.init = .initialized := Cond.initialized_spec (findClass_of_methodNamed hn) hkY h3
  have h : At U g.method c below := by rw [hg]; exact X.here
  have hlocals9 : W9 + (maxL + 11) + (headSpec ws rm).room.locals ≤ R.locals := hlocals
  have happ : (headSpec ws rm).appliesLoose y e.platform (U.calling g mk a) = true :=
    Spec.appliesLoose_calling (g := g) h hdg hn hkY hinitY
      (X.room_calling (g := g) (R' := (headSpec ws rm).room) hsize hmY hcY hframes (by rw [hlY]; omega) h4 h5) h1
  obtain ⟨mid, hmid⟩ := h.above
  have hfr : (U.setTop g).frames = (.java g :: mid) ++ below := by rw [State.frames_setTop' g h.top, hmid]; rfl
  obtain ⟨o, s₂, hsteps, -, hend, hq⟩ := Steps.callFree hM p X.admits X.cas X.clock (acts := []) hfr happ hPc trivial
  have hq' : vx_Q Qc XC mc ms free a (U.calling g mk a) o s₂ := hq
  rw [State.frames_setTop' g h.top] at hend
  obtain ⟨g₀, hg0⟩ := Option.isSome_iff_exists.mp h.top
  obtain ⟨r, hr⟩ := State.topJava?_eq_some.mp hg0
  have hr' : (({ U with heap := s₂.heap, slotsUsed := s₂.slotsUsed } : State).setVm s₂.vm).frames = .java g₀ :: r := hr
  rcases hq' with ⟨hqc, L, hfe, hL⟩ | ⟨q, rfl, E, ce, L, hx, hce, hcv, hcl, hW₂, hsm, hL⟩
  · obtain ⟨⟨v, rfl⟩, hW₂, e2, q2, q3, q4, q5, q6⟩ := id hfe
    have e3 : s₂ = ({ (U.calling g mk a).setFrames s₂.frames with heap := s₂.heap, slotsUsed := s₂.slotsUsed } : State).setVm s₂.vm := by
      have : s₂ = ({ s₂ with vm := (U.calling g mk a).vm } : State).setVm s₂.vm := rfl
      rw [e2] at this
      exact this
    obtain ⟨c₂, i₂, len₂, hc₂, hd₂, hf₂⟩ := hend
    have hW' : U.WarmedH s₂.vm := hW₂
    have hcc : c₂ = c := by
      have h1 : s₂.code? g.method = U.code? g.method := by
        rw [State.code?_eq, State.code?_eq, hW'.alike.method?]
      exact Option.some.inj (hc₂.symm.trans (h1.trans h.code))
    subst hcc
    have hlen : len₂ = len := by rw [hdg] at hd₂; cases hd₂; rfl
    subst hlen
    have hs₂ : s₂ = (({ U with heap := s₂.heap, slotsUsed := s₂.slotsUsed } : State).setVm s₂.vm).setTop { g with pc := g.pc + len₂, stack := v.toList ++ g.stack } := by
      refine e3.trans ?_
      rw [hf₂, State.calling_eq h.top, State.setFrames_setFrames, State.setTop_of_frames _ hr', hr]
      rfl
    have hsame : U.sameButNew ({ U with heap := s₂.heap, slotsUsed := s₂.slotsUsed } : State) L mc ms := by
      refine ⟨?_, q2, q3, q4, q5, q6⟩
      obtain ⟨t, ht, -⟩ := State.frames_cons hr
      show ({ U with heap := s₂.heap, slotsUsed := s₂.slotsUsed } : State) = { U.setFrames U.frames with heap := s₂.heap, slotsUsed := s₂.slotsUsed }
      rw [State.setFrames_self ht]
    subst hg
    refine Or.inl ⟨v, ⟨(({ U with heap := s₂.heap, slotsUsed := s₂.slotsUsed } : State).setVm s₂.vm), Ls ++ L, c0 + mc, s0 + ms⟩,
      ⟨X.admits, X.cas, X.clock, X.frames, X.room, X.hears, X.method, X.code, (X.here.setHeapUsed s₂.heap s₂.slotsUsed).setVm hW'.alike, X.tail, State.WarmedH.trans X.warmed hW', X.limits, X.bytes, X.same.trans (hsame.setVm s.vm)⟩,
      ⟨g, mk, s₂, L, rfl, rfl, hqc, rfl, hL, rfl, rfl⟩, ?_⟩
    show Steps p.tables e below _ ((({ U with heap := s₂.heap, slotsUsed := s₂.slotsUsed } : State).setVm s₂.vm).setTop { g with pc := g.pc + len₂, stack := v.toList ++ g.stack })
    rw [← hs₂]
    exact hsteps
  · obtain ⟨e2, q2, q3, q4, q5, q6⟩ := id hsm
    have e3 : s₂ = ({ (U.calling g mk a).setFrames s₂.frames with heap := s₂.heap, slotsUsed := s₂.slotsUsed } : State).setVm s₂.vm := by
      have : s₂ = ({ s₂ with vm := (U.calling g mk a).vm } : State).setVm s₂.vm := rfl
      rw [e2] at this
      exact this
    have hf₂ : s₂.frames = .throwing q :: .java g :: U.frames.tail := hend
    have hW' : U.WarmedH s₂.vm := hW₂
    have hs₂ : s₂ = ((({ U with heap := s₂.heap, slotsUsed := s₂.slotsUsed } : State).setVm s₂.vm).setTop g).pushFrame (.throwing q) := by
      refine e3.trans ?_
      rw [hf₂, State.calling_eq h.top, State.setFrames_setFrames, State.pushFrame, State.frames_setTop _ hr', State.setTop_of_frames _ hr', State.setFrames_setFrames, hr]
      rfl
    have hsame : U.sameButNew ({ U with heap := s₂.heap, slotsUsed := s₂.slotsUsed } : State) L mc ms := by
      refine ⟨?_, q2, q3, q4, q5, q6⟩
      obtain ⟨t, ht, -⟩ := State.frames_cons hr
      show ({ U with heap := s₂.heap, slotsUsed := s₂.slotsUsed } : State) = { U.setFrames U.frames with heap := s₂.heap, slotsUsed := s₂.slotsUsed }
      rw [State.setFrames_self ht]
    subst hg
    refine Or.inr ⟨q, ⟨(({ U with heap := s₂.heap, slotsUsed := s₂.slotsUsed } : State).setVm s₂.vm), Ls ++ L, c0 + mc, s0 + ms⟩,
      ⟨X.admits, X.cas, X.clock, X.frames, X.room, X.hears, X.method, X.code, (X.here.setHeapUsed s₂.heap s₂.slotsUsed).setVm hW'.alike, X.tail, State.WarmedH.trans X.warmed hW', X.limits, X.bytes, X.same.trans (hsame.setVm s.vm)⟩,
      ⟨g, mk, s₂, L, E, ce, rfl, rfl, hx, hce, hcv, hcl, rfl, hL, rfl, rfl⟩, ?_⟩
    show Steps p.tables e below _ (((({ U with heap := s₂.heap, slotsUsed := s₂.slotsUsed } : State).setVm s₂.vm).setTop g).pushFrame (.throwing q))
    rw [← hs₂]
    exact hsteps
end
variable {p : Program} {l : Launch} {e : Env} {R : Room} {s : State} {m : MethodId} {args : Array Value} {below : List Frame} {meth : Method} {c : Code} {T : State} {H : Heap} {locs : List Loc} {cells slots : Nat}
theorem vx_callVX (X : Stand p l e R s m args below meth c T locs cells slots) (hexec : p.tables.exec = Jvm.exec) {own C : String} {index : Nat} {y : MethodName} {bytes : ByteArray} {maxL : Nat} {ret : Option FieldType} {hh : List (Nat × Nat × Nat × Nat)}
    (hown : s.vm.findClass own = some m.cls) (hlink : (Cond.methodLink own index y).before args s = true) (hinst : (Cond.instanceMethod y).before args s = true) (hsel : (Cond.selects C y y).before args s = true)
    (hcode : (Cond.codeWith y bytes maxL ret hh).before args s = true) (hy : y.cls ≠ "java/lang/invoke/MethodHandle" ∧ y.cls ≠ "java/lang/invoke/VarHandle")
    {W9 : Nat} {Pre : Pt → Array Value → Prop} {Post : Pt → Array Value → Option Value → Pt → Prop} {PostX : Pt → Array Value → Addr → Pt → Prop} (hK : vx_Back l R p e below s args y 3 W9 Pre Post PostX)
    {b : Addr} {cellB : Cell} (hcell : T.heap[b]? = some cellB) (hobj : cellB.vm.isStatics = false) (hcls : s.vm.findClass C = some cellB.cls)
    {g : JFrame} (hg : g.method = m) (hsize : g.locals.size = c.maxLocals) {argsL rest : List Value} (hlen : ∀ sig, parseMethodDescriptor y.desc = some sig → argsL.length = sig.parameters.length)
    (hstack : g.stack = argsL.reverse ++ .ref b :: rest) (hW : 2 * g.monitorRoom + (rest.map fun v => v.category).sum ≤ W9) (hdg : decode c.code g.pc = .ok (.invokevirtual index, 3))
    (hpre : ∀ vm₁, s.WarmedH vm₁ → Pre ⟨T.setVm vm₁, locs, cells, slots⟩ (Value.ref b :: argsL).toArray) :
    (∃ (v : Option Value) (vm₁ : Vm) (B : Pt), s.WarmedH vm₁ ∧ Stand p l e R s m args below meth c B.U B.locs B.cells B.slots ∧ Post ⟨T.setVm vm₁, locs, cells, slots⟩ (Value.ref b :: argsL).toArray v B ∧
      ∀ target, Steps p.tables e below (B.U.setTop { g with pc := g.pc + 3, stack := v.toList ++ rest }) target → Steps p.tables e below (T.setTop g) target) ∨
    (∃ (q : Addr) (vm₁ : Vm) (B : Pt), s.WarmedH vm₁ ∧ Stand p l e R s m args below meth c B.U B.locs B.cells B.slots ∧ PostX ⟨T.setVm vm₁, locs, cells, slots⟩ (Value.ref b :: argsL).toArray q B ∧
      Steps p.tables e below (T.setTop g) ((B.U.setTop { g with stack := rest }).pushFrame (.throwing q))) := by
  obtain ⟨mk, methM, hnamed, hmethM, hstM, habM⟩ := Cond.instanceMethod_spec hinst
  obtain ⟨m8, methM', cM, hn8, hmethM', -, -, -, -, -, -, hsigM⟩ := Cond.codeWith_spec hcode
  cases Option.some.inj (hn8.symm.trans hnamed)
  cases hmethM.symm.trans hmethM'
  obtain ⟨c2, r2, m2, q1, q2, q3, q4, kP, hkP, hkPi⟩ := Cond.selects_spec hsel
  cases hcls.symm.trans q1
  cases (State.methodFound?_of_named hnamed hy).symm.trans q2
  cases hnamed.symm.trans q3
  have hselP : selectMethod e.platform s.vm cellB.cls mk = .method mk := by rw [Launch.admits_selectMethod X.admits]; exact q4
  obtain ⟨vm₁, X₁, hstep₁⟩ := X.invokevirtual hexec hown hlink hnamed hmethM hstM hkP hkPi hy (a := b) (cell := cellB) hcell
    (fun z h => by rw [h] at hobj; cases hobj) hselP hmethM habM hkP hkPi (g := g) hg (argsL := argsL) (rest := rest) (hlen _ hsigM) hstack hdg
  rcases hK m meth c ⟨T.setVm vm₁, locs, cells, slots⟩ { g with stack := rest } (.invokevirtual index) mk (Value.ref b :: argsL).toArray X₁ hg hsize hdg hW (X₁.named hnamed) (hpre vm₁ X₁.warmed) with ⟨v, B, X', hpost, hsteps⟩ | ⟨q, B, X', hpost, hsteps⟩
  · exact Or.inl ⟨v, vm₁, B, X₁.warmed, X', hpost, fun target h => hstep₁ _ fun acts => by rw [doInvoke_state]; exact hsteps.trans h⟩
  · exact Or.inr ⟨q, vm₁, B, X₁.warmed, X', hpost, hstep₁ _ fun acts => by rw [doInvoke_state]; exact hsteps⟩
theorem vx_callSX (X : Stand p l e R s m args below meth c T locs cells slots) (hexec : p.tables.exec = Jvm.exec) {own : String} {index : Nat} {y : MethodName} {bytes : ByteArray} {maxL : Nat} {ret : Option FieldType} {hh : List (Nat × Nat × Nat × Nat)}
    (hown : s.vm.findClass own = some m.cls) (hlink : (Cond.methodLink own index y).before args s = true) (hstat : (Cond.static y).before args s = true) (hinit : (Cond.initialized y.cls).before args s = true)
    (hcode : (Cond.codeWith y bytes maxL ret hh).before args s = true) (hy : y.cls ≠ "java/lang/invoke/MethodHandle" ∧ y.cls ≠ "java/lang/invoke/VarHandle")
    {W9 : Nat} {Pre : Pt → Array Value → Prop} {Post : Pt → Array Value → Option Value → Pt → Prop} {PostX : Pt → Array Value → Addr → Pt → Prop} (hK : vx_Back l R p e below s args y 3 W9 Pre Post PostX)
    {g : JFrame} (hg : g.method = m) (hsize : g.locals.size = c.maxLocals) {argsL rest : List Value} (hlen : ∀ sig, parseMethodDescriptor y.desc = some sig → argsL.length = sig.parameters.length)
    (hstack : g.stack = argsL.reverse ++ rest) (hW : 2 * g.monitorRoom + (rest.map fun v => v.category).sum ≤ W9) (hdg : decode c.code g.pc = .ok (.invokestatic index, 3))
    (hpre : ∀ vm₁, s.WarmedH vm₁ → Pre ⟨T.setVm vm₁, locs, cells, slots⟩ argsL.toArray) :
    (∃ (v : Option Value) (vm₁ : Vm) (B : Pt), s.WarmedH vm₁ ∧ Stand p l e R s m args below meth c B.U B.locs B.cells B.slots ∧ Post ⟨T.setVm vm₁, locs, cells, slots⟩ argsL.toArray v B ∧
      ∀ target, Steps p.tables e below (B.U.setTop { g with pc := g.pc + 3, stack := v.toList ++ rest }) target → Steps p.tables e below (T.setTop g) target) ∨
    (∃ (q : Addr) (vm₁ : Vm) (B : Pt), s.WarmedH vm₁ ∧ Stand p l e R s m args below meth c B.U B.locs B.cells B.slots ∧ PostX ⟨T.setVm vm₁, locs, cells, slots⟩ argsL.toArray q B ∧
      Steps p.tables e below (T.setTop g) ((B.U.setTop { g with stack := rest }).pushFrame (.throwing q))) := by
  obtain ⟨mk, methM, cM, hnamed, hmethM, -, -, -, -, -, -, hsigM⟩ := Cond.codeWith_spec hcode
  have hstatic : methM.isStatic = true := Cond.static_spec hnamed hmethM hstat
  obtain ⟨kP, hkP, -⟩ := className_of_methodNamed hnamed
  have hinitP : kP.init = .initialized := Cond.initialized_spec (findClass_of_methodNamed hnamed) hkP hinit
  obtain ⟨vm₁, X₁, hstep₁⟩ := X.invokestatic hexec hown hlink hnamed hmethM hstatic hkP hinitP hy (g := g) hg (argsL := argsL) (rest := rest) (hlen _ hsigM) hstack hdg
  rcases hK m meth c ⟨T.setVm vm₁, locs, cells, slots⟩ { g with stack := rest } (.invokestatic index) mk argsL.toArray X₁ hg hsize hdg hW (X₁.named hnamed) (hpre vm₁ X₁.warmed) with ⟨v, B, X', hpost, hsteps⟩ | ⟨q, B, X', hpost, hsteps⟩
  · exact Or.inl ⟨v, vm₁, B, X₁.warmed, X', hpost, fun target h => hstep₁ _ fun acts => by rw [doInvoke_state]; exact hsteps.trans h⟩
  · exact Or.inr ⟨q, vm₁, B, X₁.warmed, X', hpost, hstep₁ _ fun acts => by rw [doInvoke_state]; exact hsteps⟩
theorem vx_callVW (X : Stand p l e R s m args below meth c T locs cells slots) (hexec : p.tables.exec = Jvm.exec) {own C : String} {index : Nat} {y : MethodName} {bytes : ByteArray} {maxL : Nat} {ret : Option FieldType} {hh : List (Nat × Nat × Nat × Nat)}
    (hown : s.vm.findClass own = some m.cls) (hlink : (Cond.methodLink own index y).before args s = true) (hinst : (Cond.instanceMethod y).before args s = true) (hsel : (Cond.selects C y y).before args s = true)
    (hcode : (Cond.codeWith y bytes maxL ret hh).before args s = true) (hy : y.cls ≠ "java/lang/invoke/MethodHandle" ∧ y.cls ≠ "java/lang/invoke/VarHandle")
    {W9 : Nat} {Pre : Pt → Array Value → Prop} {Post : Pt → Array Value → Option Value → Pt → Prop} (hK : Back l R p e below s args y 3 W9 Pre Post)
    {b : Addr} {cellB : Cell} (hcell : T.heap[b]? = some cellB) (hobj : cellB.vm.isStatics = false) (hcls : s.vm.findClass C = some cellB.cls)
    {g : JFrame} (hg : g.method = m) (hsize : g.locals.size = c.maxLocals) {argsL rest : List Value} (hlen : ∀ sig, parseMethodDescriptor y.desc = some sig → argsL.length = sig.parameters.length)
    (hstack : g.stack = argsL.reverse ++ .ref b :: rest) (hW : 2 * g.monitorRoom + (rest.map fun v => v.category).sum ≤ W9) (hdg : decode c.code g.pc = .ok (.invokevirtual index, 3))
    (hpre : ∀ vm₁, s.WarmedH vm₁ → Pre ⟨T.setVm vm₁, locs, cells, slots⟩ (Value.ref b :: argsL).toArray) :
    ∃ (v : Option Value) (vm₁ : Vm) (B : Pt), s.WarmedH vm₁ ∧ Stand p l e R s m args below meth c B.U B.locs B.cells B.slots ∧ Post ⟨T.setVm vm₁, locs, cells, slots⟩ (Value.ref b :: argsL).toArray v B ∧
      ∀ target, Steps p.tables e below (B.U.setTop { g with pc := g.pc + 3, stack := v.toList ++ rest }) target → Steps p.tables e below (T.setTop g) target := by
  obtain ⟨mk, methM, hnamed, hmethM, hstM, habM⟩ := Cond.instanceMethod_spec hinst
  obtain ⟨m8, methM', cM, hn8, hmethM', -, -, -, -, -, -, hsigM⟩ := Cond.codeWith_spec hcode
  cases Option.some.inj (hn8.symm.trans hnamed)
  cases hmethM.symm.trans hmethM'
  obtain ⟨c2, r2, m2, q1, q2, q3, q4, kP, hkP, hkPi⟩ := Cond.selects_spec hsel
  cases hcls.symm.trans q1
  cases (State.methodFound?_of_named hnamed hy).symm.trans q2
  cases hnamed.symm.trans q3
  have hselP : selectMethod e.platform s.vm cellB.cls mk = .method mk := by rw [Launch.admits_selectMethod X.admits]; exact q4
  obtain ⟨vm₁, X₁, hstep₁⟩ := X.invokevirtual hexec hown hlink hnamed hmethM hstM hkP hkPi hy (a := b) (cell := cellB) hcell
    (fun z h => by rw [h] at hobj; cases hobj) hselP hmethM habM hkP hkPi (g := g) hg (argsL := argsL) (rest := rest) (hlen _ hsigM) hstack hdg
  obtain ⟨v, B, X', hpost, hsteps⟩ := hK m meth c ⟨T.setVm vm₁, locs, cells, slots⟩ { g with stack := rest } (.invokevirtual index) mk (Value.ref b :: argsL).toArray X₁ hg hsize hdg hW (X₁.named hnamed) (hpre vm₁ X₁.warmed)
  exact ⟨v, vm₁, B, X₁.warmed, X', hpost, fun target h => hstep₁ _ fun acts => by rw [doInvoke_state]; exact hsteps.trans h⟩
abbrev vx_CVW (R : Room) (s : State) (args : Array Value) (own C : String) (index : Nat) (y : MethodName) (bytes : ByteArray) (maxL : Nat) (ret : Option FieldType) (hh : List (Nat × Nat × Nat × Nat)) (ws : List Cond) (rm : Room) (mc ms n : Nat) : Prop :=
  (rm.cells = mc ∧ rm.slots = ms ∧ rm.frames + 1 ≤ R.frames ∧ 8 + (maxL + 11) + rm.locals ≤ R.locals ∧ (∀ w ∈ ws, ∀ (a' : Array Value) (U : State), s.WarmedH U.vm → w.before a' U = true) ∧ Cond.codeWith y bytes maxL ret hh ∈ ws) ∧
  (Cond.codeWith y bytes maxL ret hh).before args s = true ∧ (Cond.initialized y.cls).before args s = true ∧ (y.cls ≠ "java/lang/invoke/MethodHandle" ∧ y.cls ≠ "java/lang/invoke/VarHandle") ∧
  (∀ sig, parseMethodDescriptor y.desc = some sig → n = sig.parameters.length) ∧ (Cond.methodLink own index y).before args s = true ∧ (Cond.instanceMethod y).before args s = true ∧ (Cond.selects C y y).before args s = true
theorem vx_cwVW {own C : String} {index maxL mc ms : Nat} {y : MethodName} {bytes : ByteArray} {ret : Option FieldType} {hh : List (Nat × Nat × Nat × Nat)} {Ts ws ws' : List Cond} {rm : Room} (n : Nat) (ht : ∀ w ∈ Ts, w.before args s = true) (hT : GoodIn Ts (wsV own index C y ws)) (hw : ws = Cond.codeWith y bytes maxL ret hh :: ws') (hrc : rm.cells = mc) (hrs : rm.slots = ms)
    (hd : y.cls = C ∧ y.cls ≠ "java/lang/invoke/MethodHandle" ∧ y.cls ≠ "java/lang/invoke/VarHandle" ∧ (parseMethodDescriptor y.desc).map (fun d => d.parameters.length) = some n) (hR : rm.frames + 1 ≤ R.frames ∧ 8 + (maxL + 11) + rm.locals ≤ R.locals) :
    vx_CVW R s args own C index y bytes maxL ret hh ws rm mc ms n := by
  obtain ⟨hC, hd⟩ := hd
  subst hC
  have ok : ∀ w ∈ wsV own index y.cls y ws, w.before args s = true := fun w h => ht w (hT w h).1
  have hG : GoodIn Ts ws := fun w h => hT w (by unfold wsV; exact List.mem_append_right _ h)
  have hc : Cond.codeWith y bytes maxL ret hh ∈ ws := by rw [hw]; exact List.mem_cons_self
  refine ⟨⟨hrc, hrs, hR.1, hR.2, pay_in ht hG, hc⟩, ht _ (hG _ hc).1, ok _ (by simp [wsV]), ⟨hd.1, hd.2.1⟩, fun sig h => ?_, ok _ (by simp [wsV]), ok _ (by simp [wsV]), ok _ (by simp [wsV])⟩
  have h2 := hd.2.2
  rw [h] at h2
  exact (Option.some.inj h2).symm
theorem vx_runVW {y : MethodName} {bytes cc : ByteArray} {maxL nL mc ms n index : Nat} {ret : Option FieldType} {hh : List (Nat × Nat × Nat × Nat)} {ws : List Cond} {rm : Room} {Pc : Array Value → State → Prop} {Qc : Array Value → State → Outcome → State → Prop} {free : Addr → Prop} {Ts : List Cond} {own C : String} {b : Addr} {As rest : List Value} {g : JFrame}
    (S : CallFix p m c cc nL s args Ts own) (hM : Met l y ws rm Pc Qc mc ms free) (cw : vx_CVW R s args own C index y bytes maxL ret hh ws rm mc ms n) (hp : PreV s H C b Pc As)
    (hg : g.method = m) (hn : As.length = n) (hsize : g.locals.size = nL) (hstack : g.stack = As.reverse ++ .ref b :: rest) (hW : 2 * g.monitorRoom + (rest.map fun v => v.category).sum ≤ 8) (hdg : decode cc g.pc = .ok (.invokevirtual index, 3)) (hf : cells + mc ≤ R.cells ∧ slots + ms ≤ R.slots) :
    va_Run p l e R s m args below meth c H locs cells slots mc ms g rest (Qc (Value.ref b :: As).toArray) free := by
  obtain ⟨⟨hrc, hrs, hfr, hlo, hws, hcw⟩, hcode, hini, hy, hlen, hl, hin, hse⟩ := cw
  have hK : Back l R p e below s args y 3 8 (PreOf R mc ms Pc) (PostOf Qc mc ms free) := va_backW (hh := hh) (bytes := bytes) (maxL := maxL) (ret := ret) hM hp.1 hrc hrs hfr hlo hws hcw (fun a' U hW => word_at hW (Or.inl (by first | rfl | simp [Cond.onTables, Cond.keeps, Cond.steady])) hini)
  obtain ⟨hx, hb, hml, ho, -⟩ := S
  obtain ⟨-, ⟨cellB, hcB, hoB, hclB⟩, hPc⟩ := hp
  intro T hT X
  obtain ⟨v, vm₁, ⟨U', l2, c2, s2⟩, hW₁, X', ⟨g', mk, t, L, e1, e2, hq, h1, hL, h2, h3⟩, st⟩ := vx_callVW X hx (C := C) (hh := hh) (bytes := bytes) (maxL := maxL) (ret := ret) ho hl hin hse hcode hy hK (by rw [hT]; exact hcB) hoB hclB hg (hsize.trans hml.symm) (argsL := As) (rest := rest) (fun sig h => hn.trans (hlen sig h)) hstack hW (by rw [hb]; exact hdg)
    (fun vm₁ hW₁ => ⟨hf.1, hf.2, hPc (T.setVm vm₁) hT hW₁⟩)
  dsimp only [Pt.U, Pt.locs, Pt.cells, Pt.slots] at X' e1 e2 h1 h2 h3 st
  subst h1; subst h2; subst h3
  exact ⟨v, (T.setVm vm₁).calling g' mk (Value.ref b :: As).toArray, t, U', L, hT, X', hL, e1, e2, hq, st⟩
section
variable {y : MethodName} {bytes cc : ByteArray} {maxL nL mc ms n index : Nat} {ret : Option FieldType} {ws : List Cond} {rm : Room} {Pc : Array Value → State → Prop} {Qc : Array Value → State → Outcome → State → Prop} {XC : String → State → State → Prop} {free : Addr → Prop} {Ts : List Cond} {own C : String} {b : Addr} {As rest : List Value} {g : JFrame}
theorem vx_runVX {hh : List (Nat × Nat × Nat × Nat)} (S : CallFix p m c cc nL s args Ts own) (hM : vx_Met l y ws rm Pc Qc XC mc ms free) (cw : vx_CVW R s args own C index y bytes maxL ret hh ws rm mc ms n) (hp : PreV s H C b Pc As)
    (hg : g.method = m) (hn : As.length = n) (hsize : g.locals.size = nL) (hstack : g.stack = As.reverse ++ .ref b :: rest) (hW : 2 * g.monitorRoom + (rest.map fun v => v.category).sum ≤ 8) (hdg : decode cc g.pc = .ok (.invokevirtual index, 3)) (hf : cells + mc ≤ R.cells ∧ slots + ms ≤ R.slots) :
    vx_Run p l e R s m args below meth c H locs cells slots mc ms g rest (Qc (Value.ref b :: As).toArray) XC free := by
  obtain ⟨⟨hrc, hrs, hfr, hlo, hws, hcw⟩, hcode, hini, hy, hlen, hl, hin, hse⟩ := cw
  have hK : vx_Back l R p e below s args y 3 8 (PreOf R mc ms Pc) (PostOf Qc mc ms free) (vx_Post XC mc ms free) := vx_backW (hh := hh) (bytes := bytes) (maxL := maxL) (ret := ret) hM hp.1 hrc hrs hfr hlo hws hcw (fun a' U hW => word_at hW (Or.inl (by first | rfl | simp [Cond.onTables, Cond.keeps, Cond.steady])) hini)
  obtain ⟨hx, hb, hml, ho, -⟩ := S
  obtain ⟨-, ⟨cellB, hcB, hoB, hclB⟩, hPc⟩ := hp
  intro T hT X
  rcases vx_callVX X hx (C := C) (hh := hh) (bytes := bytes) (maxL := maxL) (ret := ret) ho hl hin hse hcode hy hK (by rw [hT]; exact hcB) hoB hclB hg (hsize.trans hml.symm) (argsL := As) (rest := rest) (fun sig h => hn.trans (hlen sig h)) hstack hW (by rw [hb]; exact hdg)
    (fun vm₁ hW₁ => ⟨hf.1, hf.2, hPc (T.setVm vm₁) hT hW₁⟩) with ⟨v, vm₁, ⟨U', l2, c2, s2⟩, hW₁, X', ⟨g', mk, t, L, e1, e2, hq, h1, hL, h2, h3⟩, st⟩ | ⟨q, vm₁, ⟨U', l2, c2, s2⟩, hW₁, X', ⟨g', mk, t, L, E, ce, e1, e2, hq, hce, hcv, hcl, h1, hL, h2, h3⟩, st⟩
  · dsimp only [Pt.U, Pt.locs, Pt.cells, Pt.slots] at X' e1 e2 h1 h2 h3 st
    subst h1; subst h2; subst h3
    exact Or.inl ⟨v, (T.setVm vm₁).calling g' mk (Value.ref b :: As).toArray, t, U', L, hT, X', hL, e1, e2, hq, st⟩
  · dsimp only [Pt.U, Pt.locs, Pt.cells, Pt.slots] at X' e1 e2 h1 h2 h3 st hcl
    subst h1; subst h2; subst h3
    exact Or.inr ⟨q, (T.setVm vm₁).calling g' mk (Value.ref b :: As).toArray, t, U', L, E, ce, hT, X', hL, e1, e2, hq, hce, hcv, vx_cls hW₁ hcl, st⟩
theorem vx_runSX {hh : List (Nat × Nat × Nat × Nat)} (S : CallFix p m c cc nL s args Ts own) (hM : vx_Met l y ws rm Pc Qc XC mc ms free) (cw : vx_CSW R s args own index y bytes maxL ret hh ws rm mc ms n) (hp : PreS s H Pc As)
    (hg : g.method = m) (hn : As.length = n) (hsize : g.locals.size = nL) (hstack : g.stack = As.reverse ++ rest) (hW : 2 * g.monitorRoom + (rest.map fun v => v.category).sum ≤ 8) (hdg : decode cc g.pc = .ok (.invokestatic index, 3)) (hf : cells + mc ≤ R.cells ∧ slots + ms ≤ R.slots) :
    vx_Run p l e R s m args below meth c H locs cells slots mc ms g rest (Qc As.toArray) XC free := by
  obtain ⟨⟨hrc, hrs, hfr, hlo, hws, hcw⟩, hcode, hini, hy, hlen, hl, hstt⟩ := cw
  have hK : vx_Back l R p e below s args y 3 8 (PreOf R mc ms Pc) (PostOf Qc mc ms free) (vx_Post XC mc ms free) := vx_backW (hh := hh) (bytes := bytes) (maxL := maxL) (ret := ret) hM hp.1 hrc hrs hfr hlo hws hcw (fun a' U hW => word_at hW (Or.inl (by first | rfl | simp [Cond.onTables, Cond.keeps, Cond.steady])) hini)
  obtain ⟨hx, hb, hml, ho, -⟩ := S
  intro T hT X
  rcases vx_callSX X hx (hh := hh) (bytes := bytes) (maxL := maxL) (ret := ret) ho hl hstt hini hcode hy hK hg (hsize.trans hml.symm) (argsL := As) (rest := rest) (fun sig h => hn.trans (hlen sig h)) hstack hW (by rw [hb]; exact hdg)
    (fun vm₁ hW₁ => ⟨hf.1, hf.2, hp.2 (T.setVm vm₁) hT hW₁⟩) with ⟨v, vm₁, ⟨U', l2, c2, s2⟩, hW₁, X', ⟨g', mk, t, L, e1, e2, hq, h1, hL, h2, h3⟩, st⟩ | ⟨q, vm₁, ⟨U', l2, c2, s2⟩, hW₁, X', ⟨g', mk, t, L, E, ce, e1, e2, hq, hce, hcv, hcl, h1, hL, h2, h3⟩, st⟩
  · dsimp only [Pt.U, Pt.locs, Pt.cells, Pt.slots] at X' e1 e2 h1 h2 h3 st
    subst h1; subst h2; subst h3
    exact Or.inl ⟨v, (T.setVm vm₁).calling g' mk As.toArray, t, U', L, hT, X', hL, e1, e2, hq, st⟩
  · dsimp only [Pt.U, Pt.locs, Pt.cells, Pt.slots] at X' e1 e2 h1 h2 h3 st hcl
    subst h1; subst h2; subst h3
    exact Or.inr ⟨q, (T.setVm vm₁).calling g' mk As.toArray, t, U', L, E, ce, hT, X', hL, e1, e2, hq, hce, hcv, vx_cls hW₁ hcl, st⟩
end
end VXH
theorem vx_ofWH {l : Launch} {y : MethodName} {ws ws' : List Cond} {rm : Room} {Pc : Array Value → State → Prop} {Qc : Array Value → State → Outcome → State → Prop} {XC : String → State → State → Prop} {mc ms : Nat} {free : Addr → Prop} {cc : ByteArray} {maxL : Nat} {ret : Option FieldType} {hh : List (Nat × Nat × Nat × Nat)}
    (hy : plainName y.cls = true) (hw : ws = Cond.codeWith y cc maxL ret hh :: ws')
    (body : ∀ p e s m args below meth c s₁, BodyLoose p l y (headSpec ws rm) cc maxL ret e s m args below meth c s₁ → c.maxLocals = maxL → Pc args s →
      W p l e (headSpec ws rm).room s m args below meth c s.heap [] 0 0 (vx_MQ below Qc XC args s mc ms free) (entryFrame m args maxL)) : vx_Met l y ws rm Pc Qc XC mc ms free := by
  refine MetFree.of_bodyS (code := cc) (maxLocals := maxL) (ret := ret) hy ?_ ?_
  · intro args s m h hn
    obtain ⟨m9, meth, c, hn9, h1, h2, h3, h4, -, h5, h6, -⟩ := Cond.codeWith_spec (atoms_spec (ws := ws) h _ (by rw [hw]; exact List.mem_cons_self))
    cases hn.symm.trans hn9
    exact ⟨meth, c, h1, h2, h3, h4, h5, h6⟩
  · intro p e s m args below meth c s₁ B hml hP _
    have hh0 : s₁.heap = s.heap := by rw [B.state]; rfl
    obtain ⟨t, a1, o, b1, b2, b3⟩ := body p e s m args below meth c s₁ B hml hP s₁ hh0 (Stand.of_body B)
    exact ⟨t, o, a1, b1, b2, b3⟩
/-! ===== END ===== -/

/-! ===== BEGIN printed: names, fields, word lists, decode rows ===== -/
def RX0 : String := "BlueBag$Acts"
def TX0 : u_T := fun k => match k with
  | 0 => ("BlueBag$Acts", "rows", "[I", true)
  | _ => ("BlueBag$Acts", "kept", "I", false)
def tyX0 : Nat → FieldType := fun k => match k with
  | 0 => .array .int
  | _ => .int
abbrev wsX00 : List Cond := u_ws RX0 TX0 2
theorem nmX0 : ∀ a, a < 2 → ∀ b, b < 2 → a ≠ b → (TX0 a).2.1 ≠ (TX0 b).2.1 := by decide +kernel
theorem tyX0_ok : ∀ k, k < 2 → parseFieldDescriptor (TX0 k).2.2.1 = some (tyX0 k) := by decide +kernel
abbrev cX0_init : ByteArray := prog_2_method_1_code
def yX0_init : MethodName := ⟨RX0, "<init>", "()V"⟩
abbrev cX0_clear : ByteArray := prog_2_method_2_code
def yX0_clear : MethodName := ⟨RX0, "clear", "()V"⟩
abbrev cX0_copyFrom : ByteArray := prog_2_method_3_code
def yX0_copyFrom : MethodName := ⟨RX0, "copyFrom", "(LBlueBag$Acts;)V"⟩
abbrev cX0_keep : ByteArray := prog_2_method_4_code
def yX0_keep : MethodName := ⟨RX0, "keep", "(LBlueBag$Sky;)V"⟩
abbrev cX0_takeBack : ByteArray := prog_2_method_5_code
def yX0_takeBack : MethodName := ⟨RX0, "takeBack", "(LBlueBag$Sky;)Z"⟩
def RX1 : String := "BlueBag$Coast"
def TX1 : u_T := fun k => match k with
  | 0 => ("BlueBag$Coast", "wide", "I", false)
  | 1 => ("BlueBag$Coast", "high", "I", false)
  | 2 => ("BlueBag$Coast", "rinse", "I", false)
  | 3 => ("BlueBag$Coast", "bound", "I", false)
  | 4 => ("BlueBag$Coast", "girls", "I", false)
  | 5 => ("BlueBag$Coast", "olds", "I", false)
  | 6 => ("BlueBag$Coast", "beside", "[I", true)
  | 7 => ("BlueBag$Coast", "dyes", "LBlueBag$Rule;", true)
  | _ => ("BlueBag$Coast", "fades", "LBlueBag$Rule;", true)
def tyX1 : Nat → FieldType := fun k => match k with
  | 0 => .int
  | 1 => .int
  | 2 => .int
  | 3 => .int
  | 4 => .int
  | 5 => .int
  | 6 => .array .int
  | 7 => .object "BlueBag$Rule"
  | _ => .object "BlueBag$Rule"
abbrev wsX10 : List Cond := u_ws RX1 TX1 9
theorem nmX1 : ∀ a, a < 9 → ∀ b, b < 9 → a ≠ b → (TX1 a).2.1 ≠ (TX1 b).2.1 := by decide +kernel
theorem tyX1_ok : ∀ k, k < 9 → parseFieldDescriptor (TX1 k).2.2.1 = some (tyX1 k) := by decide +kernel
abbrev cX1_init : ByteArray := prog_3_method_1_code
def yX1_init : MethodName := ⟨RX1, "<init>", "()V"⟩
abbrev cX1_begin : ByteArray := prog_3_method_2_code
def yX1_begin : MethodName := ⟨RX1, "begin", "()V"⟩
abbrev cX1_shape : ByteArray := prog_3_method_3_code
def yX1_shape : MethodName := ⟨RX1, "shape", "(II)V"⟩
abbrev cX1_bitsBeside : ByteArray := prog_3_method_4_code
def yX1_bitsBeside : MethodName := ⟨RX1, "bitsBeside", "(I)I"⟩
abbrev cX1_copyFrom : ByteArray := prog_3_method_5_code
def yX1_copyFrom : MethodName := ⟨RX1, "copyFrom", "(LBlueBag$Coast;)V"⟩
abbrev cX1_cells : ByteArray := prog_3_method_6_code
def yX1_cells : MethodName := ⟨RX1, "cells", "()I"⟩
abbrev cX1_rowOf : ByteArray := prog_3_method_7_code
def yX1_rowOf : MethodName := ⟨RX1, "rowOf", "(I)I"⟩
abbrev cX1_columnOf : ByteArray := prog_3_method_8_code
def yX1_columnOf : MethodName := ⟨RX1, "columnOf", "(I)I"⟩
abbrev cX1_isOld : ByteArray := prog_3_method_9_code
def yX1_isOld : MethodName := ⟨RX1, "isOld", "(I)Z"⟩
abbrev cX1_besideBits : ByteArray := prog_3_method_10_code
def yX1_besideBits : MethodName := ⟨RX1, "besideBits", "(I)I"⟩
abbrev cX1_stepsBetween : ByteArray := prog_3_method_11_code
def yX1_stepsBetween : MethodName := ⟨RX1, "stepsBetween", "(II)I"⟩
def RX2 : String := "BlueBag$CoastReader"
def TX2 : u_T := fun k => match k with
  | 0 => ("BlueBag$CoastReader", "tokens", "LBlueBag$Tokens;", true)
  | 1 => ("BlueBag$CoastReader", "rules", "LBlueBag$RuleReader;", true)
  | 2 => ("BlueBag$CoastReader", "draft", "LBlueBag$Coast;", true)
  | 3 => ("BlueBag$CoastReader", "draftSky", "LBlueBag$Sky;", true)
  | 4 => ("BlueBag$CoastReader", "told", "I", false)
  | 5 => ("BlueBag$CoastReader", "blues", "I", false)
  | _ => ("BlueBag$CoastReader", "isCellTold", "Z", false)
def tyX2 : Nat → FieldType := fun k => match k with
  | 0 => .object "BlueBag$Tokens"
  | 1 => .object "BlueBag$RuleReader"
  | 2 => .object "BlueBag$Coast"
  | 3 => .object "BlueBag$Sky"
  | 4 => .int
  | 5 => .int
  | _ => .boolean
abbrev wsX20 : List Cond := u_ws RX2 TX2 7
theorem nmX2 : ∀ a, a < 7 → ∀ b, b < 7 → a ≠ b → (TX2 a).2.1 ≠ (TX2 b).2.1 := by decide +kernel
theorem tyX2_ok : ∀ k, k < 7 → parseFieldDescriptor (TX2 k).2.2.1 = some (tyX2 k) := by decide +kernel
abbrev cX2_init : ByteArray := prog_4_method_1_code
def yX2_init : MethodName := ⟨RX2, "<init>", "(LBlueBag$Tape;)V"⟩
abbrev cX2_read : ByteArray := prog_4_method_2_code
def yX2_read : MethodName := ⟨RX2, "read", "(I)I"⟩
abbrev cX2_faultPlace : ByteArray := prog_4_method_3_code
def yX2_faultPlace : MethodName := ⟨RX2, "faultPlace", "()I"⟩
abbrev cX2_readLine : ByteArray := prog_4_method_4_code
def yX2_readLine : MethodName := ⟨RX2, "readLine", "()Z"⟩
abbrev cX2_readSky : ByteArray := prog_4_method_5_code
def yX2_readSky : MethodName := ⟨RX2, "readSky", "()Z"⟩
abbrev cX2_readBlue : ByteArray := prog_4_method_6_code
def yX2_readBlue : MethodName := ⟨RX2, "readBlue", "()Z"⟩
abbrev cX2_readGirl : ByteArray := prog_4_method_7_code
def yX2_readGirl : MethodName := ⟨RX2, "readGirl", "(Z)Z"⟩
abbrev cX2_readPegs : ByteArray := prog_4_method_8_code
def yX2_readPegs : MethodName := ⟨RX2, "readPegs", "()Z"⟩
abbrev cX2_readKnobs : ByteArray := prog_4_method_9_code
def yX2_readKnobs : MethodName := ⟨RX2, "readKnobs", "()Z"⟩
abbrev cX2_readRinse : ByteArray := prog_4_method_10_code
def yX2_readRinse : MethodName := ⟨RX2, "readRinse", "()Z"⟩
abbrev cX2_readBound : ByteArray := prog_4_method_11_code
def yX2_readBound : MethodName := ⟨RX2, "readBound", "()Z"⟩
abbrev cX2_readRule : ByteArray := prog_4_method_12_code
def yX2_readRule : MethodName := ⟨RX2, "readRule", "(ILBlueBag$Rule;)Z"⟩
abbrev cX2_passesOnce : ByteArray := prog_4_method_13_code
def yX2_passesOnce : MethodName := ⟨RX2, "passesOnce", "(I)Z"⟩
abbrev cX2_readNumber : ByteArray := prog_4_method_14_code
def yX2_readNumber : MethodName := ⟨RX2, "readNumber", "(II)I"⟩
abbrev cX2_readCell : ByteArray := prog_4_method_15_code
def yX2_readCell : MethodName := ⟨RX2, "readCell", "(I)I"⟩
abbrev cX2_refuseNumber : ByteArray := prog_4_method_16_code
def yX2_refuseNumber : MethodName := ⟨RX2, "refuseNumber", "(I)I"⟩
def RX3 : String := "BlueBag$Dice"
def TX3 : u_T := fun k => match k with
  | _ => ("BlueBag$Dice", "seed", "I", false)
def tyX3 : Nat → FieldType := fun k => match k with
  | _ => .int
abbrev wsX30 : List Cond := u_ws RX3 TX3 1
theorem nmX3 : ∀ a, a < 1 → ∀ b, b < 1 → a ≠ b → (TX3 a).2.1 ≠ (TX3 b).2.1 := by decide +kernel
theorem tyX3_ok : ∀ k, k < 1 → parseFieldDescriptor (TX3 k).2.2.1 = some (tyX3 k) := by decide +kernel
abbrev cX3_init : ByteArray := prog_5_method_1_code
def yX3_init : MethodName := ⟨RX3, "<init>", "()V"⟩
abbrev cX3_draw : ByteArray := prog_5_method_2_code
def yX3_draw : MethodName := ⟨RX3, "draw", "(I)I"⟩
def RX4 : String := "BlueBag$Memory"
def TX4 : u_T := fun k => match k with
  | 0 => ("BlueBag$Memory", "sky", "LBlueBag$Sky;", true)
  | 1 => ("BlueBag$Memory", "acts", "LBlueBag$Acts;", true)
  | 2 => ("BlueBag$Memory", "seenCells", "[I", true)
  | 3 => ("BlueBag$Memory", "seenDays", "[I", true)
  | 4 => ("BlueBag$Memory", "seenBlues", "[I", true)
  | 5 => ("BlueBag$Memory", "status", "[I", true)
  | _ => ("BlueBag$Memory", "seen", "I", false)
def tyX4 : Nat → FieldType := fun k => match k with
  | 0 => .object "BlueBag$Sky"
  | 1 => .object "BlueBag$Acts"
  | 2 => .array .int
  | 3 => .array .int
  | 4 => .array .int
  | 5 => .array .int
  | _ => .int
abbrev wsX40 : List Cond := u_ws RX4 TX4 7
theorem nmX4 : ∀ a, a < 7 → ∀ b, b < 7 → a ≠ b → (TX4 a).2.1 ≠ (TX4 b).2.1 := by decide +kernel
theorem tyX4_ok : ∀ k, k < 7 → parseFieldDescriptor (TX4 k).2.2.1 = some (tyX4 k) := by decide +kernel
abbrev cX4_init : ByteArray := prog_6_method_1_code
def yX4_init : MethodName := ⟨RX4, "<init>", "(LBlueBag$Coast;)V"⟩
abbrev cX4_begin : ByteArray := prog_6_method_2_code
def yX4_begin : MethodName := ⟨RX4, "begin", "(LBlueBag$Sky;)V"⟩
abbrev cX4_copyFrom : ByteArray := prog_6_method_3_code
def yX4_copyFrom : MethodName := ⟨RX4, "copyFrom", "(LBlueBag$Memory;)V"⟩
abbrev cX4_keepAct : ByteArray := prog_6_method_4_code
def yX4_keepAct : MethodName := ⟨RX4, "keepAct", "()V"⟩
abbrev cX4_refuse : ByteArray := prog_6_method_5_code
def yX4_refuse : MethodName := ⟨RX4, "refuse", "(I)V"⟩
abbrev cX4_refused : ByteArray := prog_6_method_6_code
def yX4_refused : MethodName := ⟨RX4, "refused", "(I)I"⟩
abbrev cX4_addSeen : ByteArray := prog_6_method_7_code
def yX4_addSeen : MethodName := ⟨RX4, "addSeen", "(III)Z"⟩
abbrev cX4_lastSeenDay : ByteArray := prog_6_method_8_code
def yX4_lastSeenDay : MethodName := ⟨RX4, "lastSeenDay", "()I"⟩
abbrev cX4_fitsSeen : ByteArray := prog_6_method_9_code
def yX4_fitsSeen : MethodName := ⟨RX4, "fitsSeen", "(LBlueBag$Sky;I)Z"⟩
def RX5 : String := "BlueBag$Rule"
def TX5 : u_T := fun k => match k with
  | 0 => ("BlueBag$Rule", "code", "[I", true)
  | 1 => ("BlueBag$Rule", "stack", "[I", true)
  | _ => ("BlueBag$Rule", "length", "I", false)
def tyX5 : Nat → FieldType := fun k => match k with
  | 0 => .array .int
  | 1 => .array .int
  | _ => .int
abbrev wsX50 : List Cond := u_ws RX5 TX5 3
theorem nmX5 : ∀ a, a < 3 → ∀ b, b < 3 → a ≠ b → (TX5 a).2.1 ≠ (TX5 b).2.1 := by decide +kernel
theorem tyX5_ok : ∀ k, k < 3 → parseFieldDescriptor (TX5 k).2.2.1 = some (tyX5 k) := by decide +kernel
abbrev cX5_init : ByteArray := prog_7_method_1_code
def yX5_init : MethodName := ⟨RX5, "<init>", "()V"⟩
abbrev cX5_clear : ByteArray := prog_7_method_2_code
def yX5_clear : MethodName := ⟨RX5, "clear", "()V"⟩
abbrev cX5_isTold : ByteArray := prog_7_method_3_code
def yX5_isTold : MethodName := ⟨RX5, "isTold", "()Z"⟩
abbrev cX5_put : ByteArray := prog_7_method_4_code
def yX5_put : MethodName := ⟨RX5, "put", "(I)V"⟩
abbrev cX5_putValue : ByteArray := prog_7_method_5_code
def yX5_putValue : MethodName := ⟨RX5, "putValue", "(I)V"⟩
abbrev cX5_copyFrom : ByteArray := prog_7_method_6_code
def yX5_copyFrom : MethodName := ⟨RX5, "copyFrom", "(LBlueBag$Rule;)V"⟩
abbrev cX5_worth : ByteArray := prog_7_method_7_code
def yX5_worth : MethodName := ⟨RX5, "worth", "([I)I"⟩
abbrev cX5_joined : ByteArray := prog_7_method_8_code
def yX5_joined : MethodName := ⟨RX5, "joined", "(III)I"⟩
def RX6 : String := "BlueBag$RuleReader"
def TX6 : u_T := fun k => match k with
  | 0 => ("BlueBag$RuleReader", "tokens", "LBlueBag$Tokens;", true)
  | 1 => ("BlueBag$RuleReader", "rule", "LBlueBag$Rule;", false)
  | _ => ("BlueBag$RuleReader", "isOfDyes", "Z", false)
def tyX6 : Nat → FieldType := fun k => match k with
  | 0 => .object "BlueBag$Tokens"
  | 1 => .object "BlueBag$Rule"
  | _ => .boolean
abbrev wsX60 : List Cond := u_ws RX6 TX6 3
theorem nmX6 : ∀ a, a < 3 → ∀ b, b < 3 → a ≠ b → (TX6 a).2.1 ≠ (TX6 b).2.1 := by decide +kernel
theorem tyX6_ok : ∀ k, k < 3 → parseFieldDescriptor (TX6 k).2.2.1 = some (tyX6 k) := by decide +kernel
abbrev cX6_init : ByteArray := prog_8_method_1_code
def yX6_init : MethodName := ⟨RX6, "<init>", "(LBlueBag$Tokens;LBlueBag$Rule;)V"⟩
abbrev cX6_begin : ByteArray := prog_8_method_2_code
def yX6_begin : MethodName := ⟨RX6, "begin", "(LBlueBag$Rule;Z)V"⟩
abbrev cX6_readExpr : ByteArray := prog_8_method_3_code
def yX6_readExpr : MethodName := ⟨RX6, "readExpr", "(I)Z"⟩
abbrev cX6_readAnd : ByteArray := prog_8_method_4_code
def yX6_readAnd : MethodName := ⟨RX6, "readAnd", "(I)Z"⟩
abbrev cX6_readNot : ByteArray := prog_8_method_5_code
def yX6_readNot : MethodName := ⟨RX6, "readNot", "(I)Z"⟩
abbrev cX6_readTest : ByteArray := prog_8_method_6_code
def yX6_readTest : MethodName := ⟨RX6, "readTest", "(I)Z"⟩
abbrev cX6_readSum : ByteArray := prog_8_method_7_code
def yX6_readSum : MethodName := ⟨RX6, "readSum", "(I)Z"⟩
abbrev cX6_readProduct : ByteArray := prog_8_method_8_code
def yX6_readProduct : MethodName := ⟨RX6, "readProduct", "(I)Z"⟩
abbrev cX6_readPart : ByteArray := prog_8_method_9_code
def yX6_readPart : MethodName := ⟨RX6, "readPart", "(I)Z"⟩
abbrev cX6_valueHere : ByteArray := prog_8_method_10_code
def yX6_valueHere : MethodName := ⟨RX6, "valueHere", "()I"⟩
def RX7 : String := "BlueBag$Sending"
def TX7 : u_T := fun k => match k with
  | 0 => ("BlueBag$Sending", "goals", "[I", true)
  | 1 => ("BlueBag$Sending", "row", "[I", true)
  | 2 => ("BlueBag$Sending", "bestRow", "[I", true)
  | 3 => ("BlueBag$Sending", "sky", "LBlueBag$Sky;", true)
  | 4 => ("BlueBag$Sending", "many", "I", false)
  | _ => ("BlueBag$Sending", "least", "I", false)
def tyX7 : Nat → FieldType := fun k => match k with
  | 0 => .array .int
  | 1 => .array .int
  | 2 => .array .int
  | 3 => .object "BlueBag$Sky"
  | 4 => .int
  | _ => .int
abbrev wsX70 : List Cond := u_ws RX7 TX7 6
theorem nmX7 : ∀ a, a < 6 → ∀ b, b < 6 → a ≠ b → (TX7 a).2.1 ≠ (TX7 b).2.1 := by decide +kernel
theorem tyX7_ok : ∀ k, k < 6 → parseFieldDescriptor (TX7 k).2.2.1 = some (tyX7 k) := by decide +kernel
abbrev cX7_init : ByteArray := prog_9_method_1_code
def yX7_init : MethodName := ⟨RX7, "<init>", "(LBlueBag$Sky;)V"⟩
abbrev cX7_find : ByteArray := prog_9_method_2_code
def yX7_find : MethodName := ⟨RX7, "find", "(I)Z"⟩
abbrev cX7_girlFor : ByteArray := prog_9_method_3_code
def yX7_girlFor : MethodName := ⟨RX7, "girlFor", "(I)I"⟩
abbrev cX7_fill : ByteArray := prog_9_method_4_code
def yX7_fill : MethodName := ⟨RX7, "fill", "(III)V"⟩
def RX8 : String := "BlueBag$Sky"
def TX8 : u_T := fun k => match k with
  | 0 => ("BlueBag$Sky", "coast", "LBlueBag$Coast;", true)
  | 1 => ("BlueBag$Sky", "blue", "[I", true)
  | 2 => ("BlueBag$Sky", "morning", "[I", true)
  | 3 => ("BlueBag$Sky", "less", "[I", true)
  | 4 => ("BlueBag$Sky", "spot", "[I", true)
  | 5 => ("BlueBag$Sky", "skill", "[I", true)
  | 6 => ("BlueBag$Sky", "values", "[I", true)
  | 7 => ("BlueBag$Sky", "pegs", "I", false)
  | 8 => ("BlueBag$Sky", "resting", "I", false)
  | 9 => ("BlueBag$Sky", "knobs", "I", false)
  | 10 => ("BlueBag$Sky", "martins", "I", false)
  | 11 => ("BlueBag$Sky", "day", "I", false)
  | _ => ("BlueBag$Sky", "overdone", "I", false)
def tyX8 : Nat → FieldType := fun k => match k with
  | 0 => .object "BlueBag$Coast"
  | 1 => .array .int
  | 2 => .array .int
  | 3 => .array .int
  | 4 => .array .int
  | 5 => .array .int
  | 6 => .array .int
  | 7 => .int
  | 8 => .int
  | 9 => .int
  | 10 => .int
  | 11 => .int
  | _ => .int
abbrev wsX80 : List Cond := u_ws RX8 TX8 13
theorem nmX8 : ∀ a, a < 13 → ∀ b, b < 13 → a ≠ b → (TX8 a).2.1 ≠ (TX8 b).2.1 := by decide +kernel
theorem tyX8_ok : ∀ k, k < 13 → parseFieldDescriptor (TX8 k).2.2.1 = some (tyX8 k) := by decide +kernel
abbrev cX8_init : ByteArray := prog_10_method_1_code
def yX8_init : MethodName := ⟨RX8, "<init>", "(LBlueBag$Coast;)V"⟩
abbrev cX8_begin : ByteArray := prog_10_method_2_code
def yX8_begin : MethodName := ⟨RX8, "begin", "()V"⟩
abbrev cX8_copyFrom : ByteArray := prog_10_method_3_code
def yX8_copyFrom : MethodName := ⟨RX8, "copyFrom", "(LBlueBag$Sky;)V"⟩
abbrev cX8_save : ByteArray := prog_10_method_4_code
def yX8_save : MethodName := ⟨RX8, "save", "([II)V"⟩
abbrev cX8_load : ByteArray := prog_10_method_5_code
def yX8_load : MethodName := ⟨RX8, "load", "([II)V"⟩
abbrev cX8_blueOf : ByteArray := prog_10_method_6_code
def yX8_blueOf : MethodName := ⟨RX8, "blueOf", "(I)I"⟩
abbrev cX8_spotOf : ByteArray := prog_10_method_7_code
def yX8_spotOf : MethodName := ⟨RX8, "spotOf", "(I)I"⟩
abbrev cX8_skillOf : ByteArray := prog_10_method_8_code
def yX8_skillOf : MethodName := ⟨RX8, "skillOf", "(I)I"⟩
abbrev cX8_isPegged : ByteArray := prog_10_method_9_code
def yX8_isPegged : MethodName := ⟨RX8, "isPegged", "(I)Z"⟩
abbrev cX8_isResting : ByteArray := prog_10_method_10_code
def yX8_isResting : MethodName := ⟨RX8, "isResting", "(I)Z"⟩
abbrev cX8_setSpot : ByteArray := prog_10_method_11_code
def yX8_setSpot : MethodName := ⟨RX8, "setSpot", "(II)V"⟩
abbrev cX8_setSkill : ByteArray := prog_10_method_12_code
def yX8_setSkill : MethodName := ⟨RX8, "setSkill", "(II)V"⟩
abbrev cX8_setResting : ByteArray := prog_10_method_13_code
def yX8_setResting : MethodName := ⟨RX8, "setResting", "(IZ)V"⟩
abbrev cX8_setPeg : ByteArray := prog_10_method_14_code
def yX8_setPeg : MethodName := ⟨RX8, "setPeg", "(IZ)V"⟩
abbrev cX8_addKnobs : ByteArray := prog_10_method_15_code
def yX8_addKnobs : MethodName := ⟨RX8, "addKnobs", "(I)V"⟩
abbrev cX8_addBlue : ByteArray := prog_10_method_16_code
def yX8_addBlue : MethodName := ⟨RX8, "addBlue", "(II)V"⟩
abbrev cX8_passDay : ByteArray := prog_10_method_17_code
def yX8_passDay : MethodName := ⟨RX8, "passDay", "()V"⟩
abbrev cX8_isAsInTheMorning : ByteArray := prog_10_method_18_code
def yX8_isAsInTheMorning : MethodName := ⟨RX8, "isAsInTheMorning", "()Z"⟩
abbrev cX8_markOverdone : ByteArray := prog_10_method_19_code
def yX8_markOverdone : MethodName := ⟨RX8, "markOverdone", "()V"⟩
abbrev cX8_fade : ByteArray := prog_10_method_20_code
def yX8_fade : MethodName := ⟨RX8, "fade", "()V"⟩
abbrev cX8_fadeOf : ByteArray := prog_10_method_21_code
def yX8_fadeOf : MethodName := ⟨RX8, "fadeOf", "(I)I"⟩
abbrev cX8_swish : ByteArray := prog_10_method_22_code
def yX8_swish : MethodName := ⟨RX8, "swish", "(II)V"⟩
abbrev cX8_drip : ByteArray := prog_10_method_23_code
def yX8_drip : MethodName := ⟨RX8, "drip", "(II)V"⟩
abbrev cX8_dyeOf : ByteArray := prog_10_method_24_code
def yX8_dyeOf : MethodName := ⟨RX8, "dyeOf", "(II)I"⟩
abbrev cX8_setValues : ByteArray := prog_10_method_25_code
def yX8_setValues : MethodName := ⟨RX8, "setValues", "(I)V"⟩
abbrev cX8_allBlue : ByteArray := prog_10_method_26_code
def yX8_allBlue : MethodName := ⟨RX8, "allBlue", "()I"⟩
abbrev cX8_rowBlue : ByteArray := prog_10_method_27_code
def yX8_rowBlue : MethodName := ⟨RX8, "rowBlue", "(I)I"⟩
abbrev cX8_girlsAt : ByteArray := prog_10_method_28_code
def yX8_girlsAt : MethodName := ⟨RX8, "girlsAt", "(I)I"⟩
abbrev cX8_deepest : ByteArray := prog_10_method_29_code
def yX8_deepest : MethodName := ⟨RX8, "deepest", "()I"⟩
abbrev cX8_palest : ByteArray := prog_10_method_30_code
def yX8_palest : MethodName := ⟨RX8, "palest", "()I"⟩
abbrev cX8_uneven : ByteArray := prog_10_method_31_code
def yX8_uneven : MethodName := ⟨RX8, "uneven", "()I"⟩
abbrev cX8_runFrom : ByteArray := prog_10_method_32_code
def yX8_runFrom : MethodName := ⟨RX8, "runFrom", "(I)I"⟩
abbrev cX8_patchBits : ByteArray := prog_10_method_33_code
def yX8_patchBits : MethodName := ⟨RX8, "patchBits", "(II)I"⟩
abbrev cX8_besideWithin : ByteArray := prog_10_method_34_code
def yX8_besideWithin : MethodName := ⟨RX8, "besideWithin", "(II)I"⟩
abbrev cX8_wayBetween : ByteArray := prog_10_method_35_code
def yX8_wayBetween : MethodName := ⟨RX8, "wayBetween", "(II)I"⟩
def RX9 : String := "BlueBag$Tape"
def TX9 : u_T := fun k => match k with
  | 0 => ("BlueBag$Tape", "bytes", "[B", true)
  | _ => ("BlueBag$Tape", "length", "I", false)
def tyX9 : Nat → FieldType := fun k => match k with
  | 0 => .array .byte
  | _ => .int
abbrev wsX90 : List Cond := u_ws RX9 TX9 2
theorem nmX9 : ∀ a, a < 2 → ∀ b, b < 2 → a ≠ b → (TX9 a).2.1 ≠ (TX9 b).2.1 := by decide +kernel
theorem tyX9_ok : ∀ k, k < 2 → parseFieldDescriptor (TX9 k).2.2.1 = some (tyX9 k) := by decide +kernel
abbrev cX9_init : ByteArray := prog_11_method_1_code
def yX9_init : MethodName := ⟨RX9, "<init>", "()V"⟩
abbrev cX9_hasRoomFor : ByteArray := prog_11_method_2_code
def yX9_hasRoomFor : MethodName := ⟨RX9, "hasRoomFor", "(I)Z"⟩
abbrev cX9_put : ByteArray := prog_11_method_3_code
def yX9_put : MethodName := ⟨RX9, "put", "(I)V"⟩
abbrev cX9_byteAt : ByteArray := prog_11_method_4_code
def yX9_byteAt : MethodName := ⟨RX9, "byteAt", "(I)I"⟩
abbrev cX9_clear : ByteArray := prog_11_method_5_code
def yX9_clear : MethodName := ⟨RX9, "clear", "()V"⟩
def RX10 : String := "BlueBag$Tokens"
def TX10 : u_T := fun k => match k with
  | 0 => ("BlueBag$Tokens", "tape", "LBlueBag$Tape;", true)
  | 1 => ("BlueBag$Tokens", "end", "I", false)
  | 2 => ("BlueBag$Tokens", "kind", "I", false)
  | 3 => ("BlueBag$Tokens", "start", "I", false)
  | 4 => ("BlueBag$Tokens", "next", "I", false)
  | 5 => ("BlueBag$Tokens", "number", "I", false)
  | 6 => ("BlueBag$Tokens", "fault", "I", false)
  | _ => ("BlueBag$Tokens", "faultPlace", "I", false)
def tyX10 : Nat → FieldType := fun k => match k with
  | 0 => .object "BlueBag$Tape"
  | 1 => .int
  | 2 => .int
  | 3 => .int
  | 4 => .int
  | 5 => .int
  | 6 => .int
  | _ => .int
abbrev wsX100 : List Cond := u_ws RX10 TX10 8
theorem nmX10 : ∀ a, a < 8 → ∀ b, b < 8 → a ≠ b → (TX10 a).2.1 ≠ (TX10 b).2.1 := by decide +kernel
theorem tyX10_ok : ∀ k, k < 8 → parseFieldDescriptor (TX10 k).2.2.1 = some (tyX10 k) := by decide +kernel
abbrev cX10_init : ByteArray := prog_12_method_1_code
def yX10_init : MethodName := ⟨RX10, "<init>", "(LBlueBag$Tape;)V"⟩
abbrev cX10_begin : ByteArray := prog_12_method_2_code
def yX10_begin : MethodName := ⟨RX10, "begin", "(I)V"⟩
abbrev cX10_advance : ByteArray := prog_12_method_3_code
def yX10_advance : MethodName := ⟨RX10, "advance", "()V"⟩
abbrev cX10_isWord : ByteArray := prog_12_method_4_code
def yX10_isWord : MethodName := ⟨RX10, "isWord", "(Ljava/lang/String;)Z"⟩
abbrev cX10_isTooLong : ByteArray := prog_12_method_5_code
def yX10_isTooLong : MethodName := ⟨RX10, "isTooLong", "()Z"⟩
abbrev cX10_refuse : ByteArray := prog_12_method_6_code
def yX10_refuse : MethodName := ⟨RX10, "refuse", "(I)Z"⟩
abbrev cX10_passes : ByteArray := prog_12_method_7_code
def yX10_passes : MethodName := ⟨RX10, "passes", "(I)Z"⟩
abbrev cX10_isBlank : ByteArray := prog_12_method_8_code
def yX10_isBlank : MethodName := ⟨RX10, "isBlank", "(I)Z"⟩
abbrev cX10_isLetter : ByteArray := prog_12_method_9_code
def yX10_isLetter : MethodName := ⟨RX10, "isLetter", "(I)Z"⟩
abbrev cX10_isDigit : ByteArray := prog_12_method_10_code
def yX10_isDigit : MethodName := ⟨RX10, "isDigit", "(I)Z"⟩
def RX11 : String := "BlueBag"
def TX11 : u_T := fun k => match k with
  | 0 => ("BlueBag", "tape", "LBlueBag$Tape;", true)
  | 1 => ("BlueBag", "coast", "LBlueBag$Coast;", true)
  | 2 => ("BlueBag", "reader", "LBlueBag$CoastReader;", true)
  | 3 => ("BlueBag", "present", "LBlueBag$Memory;", true)
  | 4 => ("BlueBag", "pictured", "LBlueBag$Memory;", true)
  | 5 => ("BlueBag", "trial", "LBlueBag$Sky;", true)
  | 6 => ("BlueBag", "sending", "LBlueBag$Sending;", true)
  | 7 => ("BlueBag", "dice", "LBlueBag$Dice;", true)
  | 8 => ("BlueBag", "lowBlues", "[J", true)
  | 9 => ("BlueBag", "highBlues", "[J", true)
  | 10 => ("BlueBag", "gains", "[I", true)
  | 11 => ("BlueBag", "isPictured", "Z", false)
  | _ => ("BlueBag", "faultPlace", "I", false)
def tyX11 : Nat → FieldType := fun k => match k with
  | 0 => .object "BlueBag$Tape"
  | 1 => .object "BlueBag$Coast"
  | 2 => .object "BlueBag$CoastReader"
  | 3 => .object "BlueBag$Memory"
  | 4 => .object "BlueBag$Memory"
  | 5 => .object "BlueBag$Sky"
  | 6 => .object "BlueBag$Sending"
  | 7 => .object "BlueBag$Dice"
  | 8 => .array .long
  | 9 => .array .long
  | 10 => .array .int
  | 11 => .boolean
  | _ => .int
abbrev wsX110 : List Cond := u_ws RX11 TX11 13
theorem nmX11 : ∀ a, a < 13 → ∀ b, b < 13 → a ≠ b → (TX11 a).2.1 ≠ (TX11 b).2.1 := by decide +kernel
theorem tyX11_ok : ∀ k, k < 13 → parseFieldDescriptor (TX11 k).2.2.1 = some (tyX11 k) := by decide +kernel
abbrev cX11_init : ByteArray := prog_1_method_1_code
def yX11_init : MethodName := ⟨RX11, "<init>", "()V"⟩
abbrev cX11_feed : ByteArray := prog_1_method_2_code
def yX11_feed : MethodName := ⟨RX11, "feed", "(IIIII)I"⟩
abbrev cX11_coast : ByteArray := prog_1_method_3_code
def yX11_coast : MethodName := ⟨RX11, "coast", "(I)I"⟩
abbrev cX11_fault : ByteArray := prog_1_method_4_code
def yX11_fault : MethodName := ⟨RX11, "fault", "()I"⟩
abbrev cX11_count : ByteArray := prog_1_method_5_code
def yX11_count : MethodName := ⟨RX11, "count", "(I)I"⟩
abbrev cX11_cell : ByteArray := prog_1_method_6_code
def yX11_cell : MethodName := ⟨RX11, "cell", "(II)I"⟩
abbrev cX11_girl : ByteArray := prog_1_method_7_code
def yX11_girl : MethodName := ⟨RX11, "girl", "(II)I"⟩
abbrev cX11_days : ByteArray := prog_1_method_8_code
def yX11_days : MethodName := ⟨RX11, "days", "(I)I"⟩
abbrev cX11_rest : ByteArray := prog_1_method_9_code
def yX11_rest : MethodName := ⟨RX11, "rest", "(IZ)Z"⟩
abbrev cX11_go : ByteArray := prog_1_method_10_code
def yX11_go : MethodName := ⟨RX11, "go", "(II)I"⟩
abbrev cX11_bag : ByteArray := prog_1_method_11_code
def yX11_bag : MethodName := ⟨RX11, "bag", "(I)I"⟩
abbrev cX11_peg : ByteArray := prog_1_method_12_code
def yX11_peg : MethodName := ⟨RX11, "peg", "(IZ)I"⟩
abbrev cX11_undo : ByteArray := prog_1_method_13_code
def yX11_undo : MethodName := ⟨RX11, "undo", "()I"⟩
abbrev cX11_then : ByteArray := prog_1_method_14_code
def yX11_then : MethodName := ⟨RX11, "then", "(II)I"⟩
abbrev cX11_sky : ByteArray := prog_1_method_15_code
def yX11_sky : MethodName := ⟨RX11, "sky", "(II)I"⟩
abbrev cX11_overdone : ByteArray := prog_1_method_16_code
def yX11_overdone : MethodName := ⟨RX11, "overdone", "(I)I"⟩
abbrev cX11_first : ByteArray := prog_1_method_17_code
def yX11_first : MethodName := ⟨RX11, "first", "(I)I"⟩
abbrev cX11_spent : ByteArray := prog_1_method_18_code
def yX11_spent : MethodName := ⟨RX11, "spent", "()I"⟩
abbrev cX11_band : ByteArray := prog_1_method_19_code
def yX11_band : MethodName := ⟨RX11, "band", "(I)I"⟩
abbrev cX11_steady : ByteArray := prog_1_method_20_code
def yX11_steady : MethodName := ⟨RX11, "steady", "()I"⟩
abbrev cX11_streak : ByteArray := prog_1_method_21_code
def yX11_streak : MethodName := ⟨RX11, "streak", "(I)I"⟩
abbrev cX11_patch : ByteArray := prog_1_method_22_code
def yX11_patch : MethodName := ⟨RX11, "patch", "(II)I"⟩
abbrev cX11_patches : ByteArray := prog_1_method_23_code
def yX11_patches : MethodName := ⟨RX11, "patches", "(I)I"⟩
abbrev cX11_way : ByteArray := prog_1_method_24_code
def yX11_way : MethodName := ⟨RX11, "way", "(II)I"⟩
abbrev cX11_steps : ByteArray := prog_1_method_25_code
def yX11_steps : MethodName := ⟨RX11, "steps", "(II)I"⟩
abbrev cX11_nearest : ByteArray := prog_1_method_26_code
def yX11_nearest : MethodName := ⟨RX11, "nearest", "(I)I"⟩
abbrev cX11_toRest : ByteArray := prog_1_method_27_code
def yX11_toRest : MethodName := ⟨RX11, "toRest", "()I"⟩
abbrev cX11_toStand : ByteArray := prog_1_method_28_code
def yX11_toStand : MethodName := ⟨RX11, "toStand", "(II)I"⟩
abbrev cX11_toSwish : ByteArray := prog_1_method_29_code
def yX11_toSwish : MethodName := ⟨RX11, "toSwish", "(II)I"⟩
abbrev cX11_sent : ByteArray := prog_1_method_30_code
def yX11_sent : MethodName := ⟨RX11, "sent", "(II)I"⟩
abbrev cX11_missed : ByteArray := prog_1_method_31_code
def yX11_missed : MethodName := ⟨RX11, "missed", "(I)I"⟩
abbrev cX11_see : ByteArray := prog_1_method_32_code
def yX11_see : MethodName := ⟨RX11, "see", "(III)I"⟩
abbrev cX11_skilled : ByteArray := prog_1_method_33_code
def yX11_skilled : MethodName := ⟨RX11, "skilled", "(I)I"⟩
abbrev cX11_look : ByteArray := prog_1_method_34_code
def yX11_look : MethodName := ⟨RX11, "look", "(I)I"⟩
abbrev cX11_forget : ByteArray := prog_1_method_35_code
def yX11_forget : MethodName := ⟨RX11, "forget", "()V"⟩
abbrev cX11_game : ByteArray := prog_1_method_36_code
def yX11_game : MethodName := ⟨RX11, "game", "(III)I"⟩
abbrev cX11_skies : ByteArray := prog_1_method_37_code
def yX11_skies : MethodName := ⟨RX11, "skies", "(III)I"⟩
abbrev cX11_image : ByteArray := prog_1_method_38_code
def yX11_image : MethodName := ⟨RX11, "image", "()V"⟩
abbrev cX11_restore : ByteArray := prog_1_method_39_code
def yX11_restore : MethodName := ⟨RX11, "restore", "()Z"⟩
abbrev cX11_needCell : ByteArray := prog_1_method_40_code
def yX11_needCell : MethodName := ⟨RX11, "needCell", "(I)V"⟩
abbrev cX11_needGirl : ByteArray := prog_1_method_41_code
def yX11_needGirl : MethodName := ⟨RX11, "needGirl", "(I)V"⟩
abbrev cX11_needWhat : ByteArray := prog_1_method_42_code
def yX11_needWhat : MethodName := ⟨RX11, "needWhat", "(II)V"⟩
abbrev cX11_needWithin : ByteArray := prog_1_method_43_code
def yX11_needWithin : MethodName := ⟨RX11, "needWithin", "(III)V"⟩
abbrev cX11_refuseAct : ByteArray := prog_1_method_44_code
def yX11_refuseAct : MethodName := ⟨RX11, "refuseAct", "()I"⟩
abbrev cX11_lookAhead : ByteArray := prog_1_method_45_code
def yX11_lookAhead : MethodName := ⟨RX11, "lookAhead", "(I)V"⟩
abbrev cX11_lookAheadIfResting : ByteArray := prog_1_method_46_code
def yX11_lookAheadIfResting : MethodName := ⟨RX11, "lookAheadIfResting", "(IZ)V"⟩
abbrev cX11_wouldFit : ByteArray := prog_1_method_47_code
def yX11_wouldFit : MethodName := ⟨RX11, "wouldFit", "(II)Z"⟩
abbrev cX11_clearBlues : ByteArray := prog_1_method_48_code
def yX11_clearBlues : MethodName := ⟨RX11, "clearBlues", "()V"⟩
abbrev cX11_gatherBlues : ByteArray := prog_1_method_49_code
def yX11_gatherBlues : MethodName := ⟨RX11, "gatherBlues", "(II)V"⟩
abbrev cX11_unlikeBlues : ByteArray := prog_1_method_50_code
def yX11_unlikeBlues : MethodName := ⟨RX11, "unlikeBlues", "(I)I"⟩
abbrev cX11_playAll : ByteArray := prog_1_method_51_code
def yX11_playAll : MethodName := ⟨RX11, "playAll", "(II)V"⟩
abbrev cX11_gainAt : ByteArray := prog_1_method_52_code
def yX11_gainAt : MethodName := ⟨RX11, "gainAt", "(III)I"⟩
abbrev cX11_drawAhead : ByteArray := prog_1_method_53_code
def yX11_drawAhead : MethodName := ⟨RX11, "drawAhead", "()V"⟩
def RX12 : String := "BlueBagModel"
def TX12 : u_T := fun k => match k with
  | 0 => ("BlueBagModel", "women", "[Ljava/lang/String;", true)
  | 1 => ("BlueBagModel", "ofDyes", "[Ljava/lang/String;", true)
  | 2 => ("BlueBagModel", "ofFades", "[Ljava/lang/String;", true)
  | 3 => ("BlueBagModel", "values", "[Ljava/lang/String;", false)
  | 4 => ("BlueBagModel", "code", "I", false)
  | 5 => ("BlueBagModel", "told", "[I", true)
  | 6 => ("BlueBagModel", "blueTold", "[I", true)
  | 7 => ("BlueBagModel", "aged", "[I", true)
  | 8 => ("BlueBagModel", "skillTold", "[I", true)
  | 9 => ("BlueBagModel", "cellTold", "[I", true)
  | 10 => ("BlueBagModel", "signsDyes", "[I", true)
  | 11 => ("BlueBagModel", "signsFades", "[I", true)
  | 12 => ("BlueBagModel", "status", "[I", true)
  | 13 => ("BlueBagModel", "skills", "[I", true)
  | 14 => ("BlueBagModel", "tape", "[I", true)
  | 15 => ("BlueBagModel", "taped", "I", false)
  | 16 => ("BlueBagModel", "at", "I", false)
  | 17 => ("BlueBagModel", "size", "I", false)
  | 18 => ("BlueBagModel", "token", "I", false)
  | 19 => ("BlueBagModel", "number", "I", false)
  | 20 => ("BlueBagModel", "begins", "I", false)
  | 21 => ("BlueBagModel", "stops", "I", false)
  | 22 => ("BlueBagModel", "bad", "I", false)
  | 23 => ("BlueBagModel", "badPlace", "I", false)
  | 24 => ("BlueBagModel", "faultPlace", "I", false)
  | 25 => ("BlueBagModel", "blued", "I", false)
  | 26 => ("BlueBagModel", "anyCell", "Z", false)
  | 27 => ("BlueBagModel", "ofFading", "Z", false)
  | 28 => ("BlueBagModel", "blue", "[I", true)
  | 29 => ("BlueBagModel", "where", "[I", true)
  | 30 => ("BlueBagModel", "past", "[I", true)
  | 31 => ("BlueBagModel", "day", "I", false)
  | 32 => ("BlueBagModel", "knobs", "I", false)
  | 33 => ("BlueBagModel", "martins", "I", false)
  | 34 => ("BlueBagModel", "pegs", "I", false)
  | 35 => ("BlueBagModel", "resting", "I", false)
  | 36 => ("BlueBagModel", "acts", "I", false)
  | 37 => ("BlueBagModel", "seen", "I", false)
  | 38 => ("BlueBagModel", "asked", "[I", true)
  | 39 => ("BlueBagModel", "stack", "[I", true)
  | 40 => ("BlueBagModel", "fading", "[I", true)
  | 41 => ("BlueBagModel", "over", "I", false)
  | 42 => ("BlueBagModel", "rowThen", "[I", true)
  | 43 => ("BlueBagModel", "blueThen", "[I", true)
  | 44 => ("BlueBagModel", "leastBy", "[I", true)
  | 45 => ("BlueBagModel", "goals", "[I", true)
  | 46 => ("BlueBagModel", "seenCell", "[I", true)
  | 47 => ("BlueBagModel", "seenIn", "[I", true)
  | 48 => ("BlueBagModel", "seenBlue", "[I", true)
  | 49 => ("BlueBagModel", "rowSeen", "[I", true)
  | 50 => ("BlueBagModel", "fits", "[I", true)
  | 51 => ("BlueBagModel", "bluesThen", "[I", true)
  | 52 => ("BlueBagModel", "fitMany", "I", false)
  | 53 => ("BlueBagModel", "gains", "[I", true)
  | 54 => ("BlueBagModel", "seedNow", "I", false)
  | 55 => ("BlueBagModel", "hasImage", "Z", false)
  | 56 => ("BlueBagModel", "actsThen", "I", false)
  | 57 => ("BlueBagModel", "seenThen", "I", false)
  | 58 => ("BlueBagModel", "imageRow", "[I", true)
  | 59 => ("BlueBagModel", "pastThen", "[I", true)
  | 60 => ("BlueBagModel", "seenCellThen", "[I", true)
  | 61 => ("BlueBagModel", "seenInThen", "[I", true)
  | 62 => ("BlueBagModel", "seenBlueThen", "[I", true)
  | _ => ("BlueBagModel", "statusThen", "[I", true)
def tyX12 : Nat → FieldType := fun k => match k with
  | 0 => .array (.object "java/lang/String")
  | 1 => .array (.object "java/lang/String")
  | 2 => .array (.object "java/lang/String")
  | 3 => .array (.object "java/lang/String")
  | 4 => .int
  | 5 => .array .int
  | 6 => .array .int
  | 7 => .array .int
  | 8 => .array .int
  | 9 => .array .int
  | 10 => .array .int
  | 11 => .array .int
  | 12 => .array .int
  | 13 => .array .int
  | 14 => .array .int
  | 15 => .int
  | 16 => .int
  | 17 => .int
  | 18 => .int
  | 19 => .int
  | 20 => .int
  | 21 => .int
  | 22 => .int
  | 23 => .int
  | 24 => .int
  | 25 => .int
  | 26 => .boolean
  | 27 => .boolean
  | 28 => .array .int
  | 29 => .array .int
  | 30 => .array .int
  | 31 => .int
  | 32 => .int
  | 33 => .int
  | 34 => .int
  | 35 => .int
  | 36 => .int
  | 37 => .int
  | 38 => .array .int
  | 39 => .array .int
  | 40 => .array .int
  | 41 => .int
  | 42 => .array .int
  | 43 => .array .int
  | 44 => .array .int
  | 45 => .array .int
  | 46 => .array .int
  | 47 => .array .int
  | 48 => .array .int
  | 49 => .array .int
  | 50 => .array .int
  | 51 => .array .int
  | 52 => .int
  | 53 => .array .int
  | 54 => .int
  | 55 => .boolean
  | 56 => .int
  | 57 => .int
  | 58 => .array .int
  | 59 => .array .int
  | 60 => .array .int
  | 61 => .array .int
  | 62 => .array .int
  | _ => .array .int
abbrev wsX120 : List Cond := u_ws RX12 TX12 64
theorem nmX12 : ∀ a, a < 64 → ∀ b, b < 64 → a ≠ b → (TX12 a).2.1 ≠ (TX12 b).2.1 := by decide +kernel
theorem tyX12_ok : ∀ k, k < 64 → parseFieldDescriptor (TX12 k).2.2.1 = some (tyX12 k) := by decide +kernel
abbrev cX12_init : ByteArray := prog_14_method_1_code
def yX12_init : MethodName := ⟨RX12, "<init>", "()V"⟩
abbrev cX12_begin : ByteArray := prog_14_method_2_code
def yX12_begin : MethodName := ⟨RX12, "begin", "(I)V"⟩
abbrev cX12_thrown : ByteArray := prog_14_method_3_code
def yX12_thrown : MethodName := ⟨RX12, "thrown", "()I"⟩
abbrev cX12_fail : ByteArray := prog_14_method_4_code
def yX12_fail : MethodName := ⟨RX12, "fail", "(I)I"⟩
abbrev cX12_failing : ByteArray := prog_14_method_5_code
def yX12_failing : MethodName := ⟨RX12, "failing", "(I)Z"⟩
abbrev cX12_isIn : ByteArray := prog_14_method_6_code
def yX12_isIn : MethodName := ⟨RX12, "isIn", "(JJJ)Z"⟩
abbrev cX12_isOf : ByteArray := prog_14_method_7_code
def yX12_isOf : MethodName := ⟨RX12, "isOf", "(II)Z"⟩
abbrev cX12_bitsOf : ByteArray := prog_14_method_8_code
def yX12_bitsOf : MethodName := ⟨RX12, "bitsOf", "(I)I"⟩
abbrev cX12_cells : ByteArray := prog_14_method_9_code
def yX12_cells : MethodName := ⟨RX12, "cells", "()I"⟩
abbrev cX12_isCell : ByteArray := prog_14_method_10_code
def yX12_isCell : MethodName := ⟨RX12, "isCell", "(I)Z"⟩
abbrev cX12_isGirl : ByteArray := prog_14_method_11_code
def yX12_isGirl : MethodName := ⟨RX12, "isGirl", "(I)Z"⟩
abbrev cX12_feed : ByteArray := prog_14_method_12_code
def yX12_feed : MethodName := ⟨RX12, "feed", "(IIIII)I"⟩
abbrev cX12_byteAt : ByteArray := prog_14_method_13_code
def yX12_byteAt : MethodName := ⟨RX12, "byteAt", "(I)I"⟩
abbrev cX12_isLetter : ByteArray := prog_14_method_14_code
def yX12_isLetter : MethodName := ⟨RX12, "isLetter", "(I)Z"⟩
abbrev cX12_isDigit : ByteArray := prog_14_method_15_code
def yX12_isDigit : MethodName := ⟨RX12, "isDigit", "(I)Z"⟩
abbrev cX12_isMark : ByteArray := prog_14_method_16_code
def yX12_isMark : MethodName := ⟨RX12, "isMark", "(I)Z"⟩
abbrev cX12_stepOn : ByteArray := prog_14_method_17_code
def yX12_stepOn : MethodName := ⟨RX12, "stepOn", "()V"⟩
abbrev cX12_wrong : ByteArray := prog_14_method_18_code
def yX12_wrong : MethodName := ⟨RX12, "wrong", "(I)V"⟩
abbrev cX12_is : ByteArray := prog_14_method_19_code
def yX12_is : MethodName := ⟨RX12, "is", "(Ljava/lang/String;)Z"⟩
abbrev cX12_which : ByteArray := prog_14_method_20_code
def yX12_which : MethodName := ⟨RX12, "which", "([Ljava/lang/String;)I"⟩
abbrev cX12_isMarked : ByteArray := prog_14_method_21_code
def yX12_isMarked : MethodName := ⟨RX12, "isMarked", "(I)Z"⟩
abbrev cX12_mark : ByteArray := prog_14_method_22_code
def yX12_mark : MethodName := ⟨RX12, "mark", "(I)V"⟩
abbrev cX12_numberNow : ByteArray := prog_14_method_23_code
def yX12_numberNow : MethodName := ⟨RX12, "numberNow", "(II)I"⟩
abbrev cX12_readNumber : ByteArray := prog_14_method_24_code
def yX12_readNumber : MethodName := ⟨RX12, "readNumber", "(II)I"⟩
abbrev cX12_cellNow : ByteArray := prog_14_method_25_code
def yX12_cellNow : MethodName := ⟨RX12, "cellNow", "(I)I"⟩
abbrev cX12_lay : ByteArray := prog_14_method_26_code
def yX12_lay : MethodName := ⟨RX12, "lay", "(I)V"⟩
abbrev cX12_readPart : ByteArray := prog_14_method_27_code
def yX12_readPart : MethodName := ⟨RX12, "readPart", "(I)V"⟩
abbrev cX12_readProduct : ByteArray := prog_14_method_28_code
def yX12_readProduct : MethodName := ⟨RX12, "readProduct", "(I)V"⟩
abbrev cX12_readSum : ByteArray := prog_14_method_29_code
def yX12_readSum : MethodName := ⟨RX12, "readSum", "(I)V"⟩
abbrev cX12_readNot : ByteArray := prog_14_method_30_code
def yX12_readNot : MethodName := ⟨RX12, "readNot", "(I)V"⟩
abbrev cX12_readAnd : ByteArray := prog_14_method_31_code
def yX12_readAnd : MethodName := ⟨RX12, "readAnd", "(I)V"⟩
abbrev cX12_readExpression : ByteArray := prog_14_method_32_code
def yX12_readExpression : MethodName := ⟨RX12, "readExpression", "(I)V"⟩
abbrev cX12_saySky : ByteArray := prog_14_method_33_code
def yX12_saySky : MethodName := ⟨RX12, "saySky", "()V"⟩
abbrev cX12_sayBlue : ByteArray := prog_14_method_34_code
def yX12_sayBlue : MethodName := ⟨RX12, "sayBlue", "()V"⟩
abbrev cX12_sayWoman : ByteArray := prog_14_method_35_code
def yX12_sayWoman : MethodName := ⟨RX12, "sayWoman", "(I)V"⟩
abbrev cX12_sayPegs : ByteArray := prog_14_method_36_code
def yX12_sayPegs : MethodName := ⟨RX12, "sayPegs", "()V"⟩
abbrev cX12_sayRule : ByteArray := prog_14_method_37_code
def yX12_sayRule : MethodName := ⟨RX12, "sayRule", "(Z)V"⟩
abbrev cX12_sayOnce : ByteArray := prog_14_method_38_code
def yX12_sayOnce : MethodName := ⟨RX12, "sayOnce", "(I)V"⟩
abbrev cX12_readLine : ByteArray := prog_14_method_39_code
def yX12_readLine : MethodName := ⟨RX12, "readLine", "(I)I"⟩
abbrev cX12_coast : ByteArray := prog_14_method_40_code
def yX12_coast : MethodName := ⟨RX12, "coast", "(I)I"⟩
abbrev cX12_takeHalf : ByteArray := prog_14_method_41_code
def yX12_takeHalf : MethodName := ⟨RX12, "takeHalf", "([I)V"⟩
abbrev cX12_takeOver : ByteArray := prog_14_method_42_code
def yX12_takeOver : MethodName := ⟨RX12, "takeOver", "()V"⟩
abbrev cX12_fault : ByteArray := prog_14_method_43_code
def yX12_fault : MethodName := ⟨RX12, "fault", "()I"⟩
abbrev cX12_pack : ByteArray := prog_14_method_44_code
def yX12_pack : MethodName := ⟨RX12, "pack", "([II)V"⟩
abbrev cX12_unpack : ByteArray := prog_14_method_45_code
def yX12_unpack : MethodName := ⟨RX12, "unpack", "([II)V"⟩
abbrev cX12_columnOf : ByteArray := prog_14_method_46_code
def yX12_columnOf : MethodName := ⟨RX12, "columnOf", "(I)I"⟩
abbrev cX12_rowOf : ByteArray := prog_14_method_47_code
def yX12_rowOf : MethodName := ⟨RX12, "rowOf", "(I)I"⟩
abbrev cX12_farOf : ByteArray := prog_14_method_48_code
def yX12_farOf : MethodName := ⟨RX12, "farOf", "(II)I"⟩
abbrev cX12_besideOf : ByteArray := prog_14_method_49_code
def yX12_besideOf : MethodName := ⟨RX12, "besideOf", "(I)I"⟩
abbrev cX12_blueBeside : ByteArray := prog_14_method_50_code
def yX12_blueBeside : MethodName := ⟨RX12, "blueBeside", "(I)I"⟩
abbrev cX12_reckon : ByteArray := prog_14_method_51_code
def yX12_reckon : MethodName := ⟨RX12, "reckon", "(III)I"⟩
abbrev cX12_valueNow : ByteArray := prog_14_method_52_code
def yX12_valueNow : MethodName := ⟨RX12, "valueNow", "([II)I"⟩
abbrev cX12_ask : ByteArray := prog_14_method_53_code
def yX12_ask : MethodName := ⟨RX12, "ask", "(I)V"⟩
abbrev cX12_dyesOf : ByteArray := prog_14_method_54_code
def yX12_dyesOf : MethodName := ⟨RX12, "dyesOf", "(II)I"⟩
abbrev cX12_fadesOf : ByteArray := prog_14_method_55_code
def yX12_fadesOf : MethodName := ⟨RX12, "fadesOf", "(I)I"⟩
abbrev cX12_dye : ByteArray := prog_14_method_56_code
def yX12_dye : MethodName := ⟨RX12, "dye", "(II)V"⟩
abbrev cX12_swish : ByteArray := prog_14_method_57_code
def yX12_swish : MethodName := ⟨RX12, "swish", "(II)V"⟩
abbrev cX12_aDay : ByteArray := prog_14_method_58_code
def yX12_aDay : MethodName := ⟨RX12, "aDay", "()V"⟩
abbrev cX12_goOn : ByteArray := prog_14_method_59_code
def yX12_goOn : MethodName := ⟨RX12, "goOn", "(I)V"⟩
abbrev cX12_allBlue : ByteArray := prog_14_method_60_code
def yX12_allBlue : MethodName := ⟨RX12, "allBlue", "()I"⟩
abbrev cX12_count : ByteArray := prog_14_method_61_code
def yX12_count : MethodName := ⟨RX12, "count", "(I)I"⟩
abbrev cX12_girlsAt : ByteArray := prog_14_method_62_code
def yX12_girlsAt : MethodName := ⟨RX12, "girlsAt", "(I)I"⟩
abbrev cX12_patchOf : ByteArray := prog_14_method_63_code
def yX12_patchOf : MethodName := ⟨RX12, "patchOf", "(II)I"⟩
abbrev cX12_cell : ByteArray := prog_14_method_64_code
def yX12_cell : MethodName := ⟨RX12, "cell", "(II)I"⟩
abbrev cX12_girl : ByteArray := prog_14_method_65_code
def yX12_girl : MethodName := ⟨RX12, "girl", "(II)I"⟩
abbrev cX12_refuse : ByteArray := prog_14_method_66_code
def yX12_refuse : MethodName := ⟨RX12, "refuse", "(I)I"⟩
abbrev cX12_keep : ByteArray := prog_14_method_67_code
def yX12_keep : MethodName := ⟨RX12, "keep", "()V"⟩
abbrev cX12_days : ByteArray := prog_14_method_68_code
def yX12_days : MethodName := ⟨RX12, "days", "(I)I"⟩
abbrev cX12_rest : ByteArray := prog_14_method_69_code
def yX12_rest : MethodName := ⟨RX12, "rest", "(IZ)Z"⟩
abbrev cX12_go : ByteArray := prog_14_method_70_code
def yX12_go : MethodName := ⟨RX12, "go", "(II)I"⟩
abbrev cX12_bag : ByteArray := prog_14_method_71_code
def yX12_bag : MethodName := ⟨RX12, "bag", "(I)I"⟩
abbrev cX12_peg : ByteArray := prog_14_method_72_code
def yX12_peg : MethodName := ⟨RX12, "peg", "(IZ)I"⟩
abbrev cX12_undo : ByteArray := prog_14_method_73_code
def yX12_undo : MethodName := ⟨RX12, "undo", "()I"⟩
abbrev cX12_then : ByteArray := prog_14_method_74_code
def yX12_then : MethodName := ⟨RX12, "then", "(II)I"⟩
abbrev cX12_extreme : ByteArray := prog_14_method_75_code
def yX12_extreme : MethodName := ⟨RX12, "extreme", "(Z)I"⟩
abbrev cX12_uneven : ByteArray := prog_14_method_76_code
def yX12_uneven : MethodName := ⟨RX12, "uneven", "()I"⟩
abbrev cX12_sky : ByteArray := prog_14_method_77_code
def yX12_sky : MethodName := ⟨RX12, "sky", "(II)I"⟩
abbrev cX12_overdone : ByteArray := prog_14_method_78_code
def yX12_overdone : MethodName := ⟨RX12, "overdone", "(I)I"⟩
abbrev cX12_first : ByteArray := prog_14_method_79_code
def yX12_first : MethodName := ⟨RX12, "first", "(I)I"⟩
abbrev cX12_spent : ByteArray := prog_14_method_80_code
def yX12_spent : MethodName := ⟨RX12, "spent", "()I"⟩
abbrev cX12_band : ByteArray := prog_14_method_81_code
def yX12_band : MethodName := ⟨RX12, "band", "(I)I"⟩
abbrev cX12_steady : ByteArray := prog_14_method_82_code
def yX12_steady : MethodName := ⟨RX12, "steady", "()I"⟩
abbrev cX12_streakFrom : ByteArray := prog_14_method_83_code
def yX12_streakFrom : MethodName := ⟨RX12, "streakFrom", "(I)I"⟩
abbrev cX12_streak : ByteArray := prog_14_method_84_code
def yX12_streak : MethodName := ⟨RX12, "streak", "(I)I"⟩
abbrev cX12_patch : ByteArray := prog_14_method_85_code
def yX12_patch : MethodName := ⟨RX12, "patch", "(II)I"⟩
abbrev cX12_patches : ByteArray := prog_14_method_86_code
def yX12_patches : MethodName := ⟨RX12, "patches", "(I)I"⟩
abbrev cX12_way : ByteArray := prog_14_method_87_code
def yX12_way : MethodName := ⟨RX12, "way", "(II)I"⟩
abbrev cX12_unevenNext : ByteArray := prog_14_method_88_code
def yX12_unevenNext : MethodName := ⟨RX12, "unevenNext", "()I"⟩
abbrev cX12_toRest : ByteArray := prog_14_method_89_code
def yX12_toRest : MethodName := ⟨RX12, "toRest", "()I"⟩
abbrev cX12_toStand : ByteArray := prog_14_method_90_code
def yX12_toStand : MethodName := ⟨RX12, "toStand", "(II)I"⟩
abbrev cX12_toSwish : ByteArray := prog_14_method_91_code
def yX12_toSwish : MethodName := ⟨RX12, "toSwish", "(II)I"⟩
abbrev cX12_missed : ByteArray := prog_14_method_92_code
def yX12_missed : MethodName := ⟨RX12, "missed", "(I)I"⟩
abbrev cX12_steps : ByteArray := prog_14_method_93_code
def yX12_steps : MethodName := ⟨RX12, "steps", "(II)I"⟩
abbrev cX12_nearest : ByteArray := prog_14_method_94_code
def yX12_nearest : MethodName := ⟨RX12, "nearest", "(I)I"⟩
abbrev cX12_with : ByteArray := prog_14_method_95_code
def yX12_with : MethodName := ⟨RX12, "with", "(III)I"⟩
abbrev cX12_tellLeast : ByteArray := prog_14_method_96_code
def yX12_tellLeast : MethodName := ⟨RX12, "tellLeast", "(I)V"⟩
abbrev cX12_sent : ByteArray := prog_14_method_97_code
def yX12_sent : MethodName := ⟨RX12, "sent", "(II)I"⟩
abbrev cX12_see : ByteArray := prog_14_method_98_code
def yX12_see : MethodName := ⟨RX12, "see", "(III)I"⟩
abbrev cX12_isAsSeen : ByteArray := prog_14_method_99_code
def yX12_isAsSeen : MethodName := ⟨RX12, "isAsSeen", "()Z"⟩
abbrev cX12_tellFits : ByteArray := prog_14_method_100_code
def yX12_tellFits : MethodName := ⟨RX12, "tellFits", "()V"⟩
abbrev cX12_skilled : ByteArray := prog_14_method_101_code
def yX12_skilled : MethodName := ⟨RX12, "skilled", "(I)I"⟩
abbrev cX12_unlike : ByteArray := prog_14_method_102_code
def yX12_unlike : MethodName := ⟨RX12, "unlike", "(I)I"⟩
abbrev cX12_look : ByteArray := prog_14_method_103_code
def yX12_look : MethodName := ⟨RX12, "look", "(I)I"⟩
abbrev cX12_forget : ByteArray := prog_14_method_104_code
def yX12_forget : MethodName := ⟨RX12, "forget", "()V"⟩
abbrev cX12_tellGains : ByteArray := prog_14_method_105_code
def yX12_tellGains : MethodName := ⟨RX12, "tellGains", "(II)V"⟩
abbrev cX12_game : ByteArray := prog_14_method_106_code
def yX12_game : MethodName := ⟨RX12, "game", "(III)I"⟩
abbrev cX12_drawOf : ByteArray := prog_14_method_107_code
def yX12_drawOf : MethodName := ⟨RX12, "drawOf", "(I)I"⟩
abbrev cX12_something : ByteArray := prog_14_method_108_code
def yX12_something : MethodName := ⟨RX12, "something", "()V"⟩
abbrev cX12_skies : ByteArray := prog_14_method_109_code
def yX12_skies : MethodName := ⟨RX12, "skies", "(III)I"⟩
abbrev cX12_copyTo : ByteArray := prog_14_method_110_code
def yX12_copyTo : MethodName := ⟨RX12, "copyTo", "([I[I)V"⟩
abbrev cX12_image : ByteArray := prog_14_method_111_code
def yX12_image : MethodName := ⟨RX12, "image", "()V"⟩
abbrev cX12_restore : ByteArray := prog_14_method_112_code
def yX12_restore : MethodName := ⟨RX12, "restore", "()Z"⟩
def RJx145de : String := "java/io/Serializable"
def TJx145de : u_T := fun k => match k with
  | _ => ("", "", "", false)
def tyJx145de : Nat → FieldType := fun k => match k with
  | _ => .int
abbrev wsJx145de0 : List Cond := u_ws RJx145de TJx145de 0
theorem nmJx145de : ∀ a, a < 0 → ∀ b, b < 0 → a ≠ b → (TJx145de a).2.1 ≠ (TJx145de b).2.1 := by decide +kernel
theorem tyJx145de_ok : ∀ k, k < 0 → parseFieldDescriptor (TJx145de k).2.2.1 = some (tyJx145de k) := by decide +kernel
def RJx9f9b0 : String := "java/lang/CharSequence"
def TJx9f9b0 : u_T := fun k => match k with
  | _ => ("", "", "", false)
def tyJx9f9b0 : Nat → FieldType := fun k => match k with
  | _ => .int
abbrev wsJx9f9b00 : List Cond := u_ws RJx9f9b0 TJx9f9b0 0
theorem nmJx9f9b0 : ∀ a, a < 0 → ∀ b, b < 0 → a ≠ b → (TJx9f9b0 a).2.1 ≠ (TJx9f9b0 b).2.1 := by decide +kernel
theorem tyJx9f9b0_ok : ∀ k, k < 0 → parseFieldDescriptor (TJx9f9b0 k).2.2.1 = some (tyJx9f9b0 k) := by decide +kernel
def RJxb160c : String := "java/lang/Comparable"
def TJxb160c : u_T := fun k => match k with
  | _ => ("", "", "", false)
def tyJxb160c : Nat → FieldType := fun k => match k with
  | _ => .int
abbrev wsJxb160c0 : List Cond := u_ws RJxb160c TJxb160c 0
theorem nmJxb160c : ∀ a, a < 0 → ∀ b, b < 0 → a ≠ b → (TJxb160c a).2.1 ≠ (TJxb160c b).2.1 := by decide +kernel
theorem tyJxb160c_ok : ∀ k, k < 0 → parseFieldDescriptor (TJxb160c k).2.2.1 = some (tyJxb160c k) := by decide +kernel
def RJ6 : String := "java/lang/Integer"
def TJ6 : u_T := fun k => match k with
  | _ => ("", "", "", false)
def tyJ6 : Nat → FieldType := fun k => match k with
  | _ => .int
abbrev wsJ60 : List Cond := u_ws RJ6 TJ6 0
theorem nmJ6 : ∀ a, a < 0 → ∀ b, b < 0 → a ≠ b → (TJ6 a).2.1 ≠ (TJ6 b).2.1 := by decide +kernel
theorem tyJ6_ok : ∀ k, k < 0 → parseFieldDescriptor (TJ6 k).2.2.1 = some (tyJ6 k) := by decide +kernel
abbrev cJ6_bitCount_0f7a4 : ByteArray := prog_20_method_49_code
def yJ6_bitCount_0f7a4 : MethodName := ⟨RJ6, "bitCount", "(I)I"⟩
def RJ13 : String := "java/lang/Long"
def TJ13 : u_T := fun k => match k with
  | _ => ("", "", "", false)
def tyJ13 : Nat → FieldType := fun k => match k with
  | _ => .int
abbrev wsJ130 : List Cond := u_ws RJ13 TJ13 0
theorem nmJ13 : ∀ a, a < 0 → ∀ b, b < 0 → a ≠ b → (TJ13 a).2.1 ≠ (TJ13 b).2.1 := by decide +kernel
theorem tyJ13_ok : ∀ k, k < 0 → parseFieldDescriptor (TJ13 k).2.2.1 = some (tyJ13 k) := by decide +kernel
abbrev cJ13_bitCount_95d88 : ByteArray := prog_21_method_50_code
def yJ13_bitCount_95d88 : MethodName := ⟨RJ13, "bitCount", "(J)I"⟩
def RJ9 : String := "java/lang/Math"
def TJ9 : u_T := fun k => match k with
  | _ => ("", "", "", false)
def tyJ9 : Nat → FieldType := fun k => match k with
  | _ => .int
abbrev wsJ90 : List Cond := u_ws RJ9 TJ9 0
theorem nmJ9 : ∀ a, a < 0 → ∀ b, b < 0 → a ≠ b → (TJ9 a).2.1 ≠ (TJ9 b).2.1 := by decide +kernel
theorem tyJ9_ok : ∀ k, k < 0 → parseFieldDescriptor (TJ9 k).2.2.1 = some (tyJ9 k) := by decide +kernel
abbrev cJ9_abs_0f7a4 : ByteArray := prog_22_method_59_code
def yJ9_abs_0f7a4 : MethodName := ⟨RJ9, "abs", "(I)I"⟩
abbrev cJ9_max_7cf53 : ByteArray := prog_22_method_65_code
def yJ9_max_7cf53 : MethodName := ⟨RJ9, "max", "(II)I"⟩
abbrev cJ9_min_7cf53 : ByteArray := prog_22_method_69_code
def yJ9_min_7cf53 : MethodName := ⟨RJ9, "min", "(II)I"⟩
def RJ0 : String := "java/lang/String"
def TJ0 : u_T := fun k => match k with
  | _ => ("", "", "", false)
def tyJ0 : Nat → FieldType := fun k => match k with
  | _ => .int
abbrev wsJ00 : List Cond := u_ws RJ0 TJ0 0
theorem nmJ0 : ∀ a, a < 0 → ∀ b, b < 0 → a ≠ b → (TJ0 a).2.1 ≠ (TJ0 b).2.1 := by decide +kernel
theorem tyJ0_ok : ∀ k, k < 0 → parseFieldDescriptor (TJ0 k).2.2.1 = some (tyJ0 k) := by decide +kernel
abbrev cJ0_length_8abf5 : ByteArray := prog_24_method_54_code
def yJ0_length_8abf5 : MethodName := ⟨RJ0, "length", "()I"⟩
abbrev cJ0_charAt_5068e : ByteArray := prog_24_method_56_code
def yJ0_charAt_5068e : MethodName := ⟨RJ0, "charAt", "(I)C"⟩
abbrev cJ0_coder_7d493 : ByteArray := prog_24_method_152_code
def yJ0_coder_7d493 : MethodName := ⟨RJ0, "coder", "()B"⟩
abbrev cJ0_isLatin1_aae02 : ByteArray := prog_24_method_154_code
def yJ0_isLatin1_aae02 : MethodName := ⟨RJ0, "isLatin1", "()Z"⟩
abbrev cJ0_checkIndex_df160 : ByteArray := prog_24_method_155_code
def yJ0_checkIndex_df160 : MethodName := ⟨RJ0, "checkIndex", "(II)V"⟩
def RJ1 : String := "java/lang/StringLatin1"
def TJ1 : u_T := fun k => match k with
  | _ => ("", "", "", false)
def tyJ1 : Nat → FieldType := fun k => match k with
  | _ => .int
abbrev wsJ10 : List Cond := u_ws RJ1 TJ1 0
theorem nmJ1 : ∀ a, a < 0 → ∀ b, b < 0 → a ≠ b → (TJ1 a).2.1 ≠ (TJ1 b).2.1 := by decide +kernel
theorem tyJ1_ok : ∀ k, k < 0 → parseFieldDescriptor (TJ1 k).2.2.1 = some (tyJ1 k) := by decide +kernel
abbrev cJ1_charAt_3b067 : ByteArray := prog_25_method_2_code
def yJ1_charAt_3b067 : MethodName := ⟨RJ1, "charAt", "([BI)C"⟩
def RJ2 : String := "java/lang/StringUTF16"
def TJ2 : u_T := fun k => match k with
  | _ => ("", "", "", false)
def tyJ2 : Nat → FieldType := fun k => match k with
  | _ => .int
abbrev wsJ20 : List Cond := u_ws RJ2 TJ2 0
theorem nmJ2 : ∀ a, a < 0 → ∀ b, b < 0 → a ≠ b → (TJ2 a).2.1 ≠ (TJ2 b).2.1 := by decide +kernel
theorem tyJ2_ok : ∀ k, k < 0 → parseFieldDescriptor (TJ2 k).2.2.1 = some (tyJ2 k) := by decide +kernel
abbrev cJ2_getChar_3b067 : ByteArray := prog_26_method_5_code
def yJ2_getChar_3b067 : MethodName := ⟨RJ2, "getChar", "([BI)C"⟩
abbrev cJ2_length_9d52b : ByteArray := prog_26_method_6_code
def yJ2_length_9d52b : MethodName := ⟨RJ2, "length", "([B)I"⟩
abbrev cJ2_charAt_3b067 : ByteArray := prog_26_method_83_code
def yJ2_charAt_3b067 : MethodName := ⟨RJ2, "charAt", "([BI)C"⟩
abbrev cJ2_checkIndex_2214a : ByteArray := prog_26_method_91_code
def yJ2_checkIndex_2214a : MethodName := ⟨RJ2, "checkIndex", "(I[B)V"⟩
def RJ10 : String := "java/lang/System"
def TJ10 : u_T := fun k => match k with
  | _ => ("", "", "", false)
def tyJ10 : Nat → FieldType := fun k => match k with
  | _ => .int
abbrev wsJ100 : List Cond := u_ws RJ10 TJ10 0
theorem nmJ10 : ∀ a, a < 0 → ∀ b, b < 0 → a ≠ b → (TJ10 a).2.1 ≠ (TJ10 b).2.1 := by decide +kernel
theorem tyJ10_ok : ∀ k, k < 0 → parseFieldDescriptor (TJ10 k).2.2.1 = some (tyJ10 k) := by decide +kernel
def RJxfd54e : String := "java/lang/constant/Constable"
def TJxfd54e : u_T := fun k => match k with
  | _ => ("", "", "", false)
def tyJxfd54e : Nat → FieldType := fun k => match k with
  | _ => .int
abbrev wsJxfd54e0 : List Cond := u_ws RJxfd54e TJxfd54e 0
theorem nmJxfd54e : ∀ a, a < 0 → ∀ b, b < 0 → a ≠ b → (TJxfd54e a).2.1 ≠ (TJxfd54e b).2.1 := by decide +kernel
theorem tyJxfd54e_ok : ∀ k, k < 0 → parseFieldDescriptor (TJxfd54e k).2.2.1 = some (tyJxfd54e k) := by decide +kernel
def RJx3cf43 : String := "java/lang/constant/ConstantDesc"
def TJx3cf43 : u_T := fun k => match k with
  | _ => ("", "", "", false)
def tyJx3cf43 : Nat → FieldType := fun k => match k with
  | _ => .int
abbrev wsJx3cf430 : List Cond := u_ws RJx3cf43 TJx3cf43 0
theorem nmJx3cf43 : ∀ a, a < 0 → ∀ b, b < 0 → a ≠ b → (TJx3cf43 a).2.1 ≠ (TJx3cf43 b).2.1 := by decide +kernel
theorem tyJx3cf43_ok : ∀ k, k < 0 → parseFieldDescriptor (TJx3cf43 k).2.2.1 = some (tyJx3cf43 k) := by decide +kernel
def RJ3 : String := "jdk/internal/util/Preconditions"
def TJ3 : u_T := fun k => match k with
  | _ => ("", "", "", false)
def tyJ3 : Nat → FieldType := fun k => match k with
  | _ => .int
abbrev wsJ30 : List Cond := u_ws RJ3 TJ3 0
theorem nmJ3 : ∀ a, a < 0 → ∀ b, b < 0 → a ≠ b → (TJ3 a).2.1 ≠ (TJ3 b).2.1 := by decide +kernel
theorem tyJ3_ok : ∀ k, k < 0 → parseFieldDescriptor (TJ3 k).2.2.1 = some (tyJ3 k) := by decide +kernel
abbrev cJ3_checkIndex_8e157 : ByteArray := prog_32_method_11_code
def yJ3_checkIndex_8e157 : MethodName := ⟨RJ3, "checkIndex", "(IILjava/util/function/BiFunction;)I"⟩
def RL : String := "BlueBagLaw"
abbrev cL_coast : ByteArray := method_3_code
def yL_coast : MethodName := ⟨RL, "coast", "(LBlueBag;I[J)I"⟩
abbrev cL_count : ByteArray := method_4_code
def yL_count : MethodName := ⟨RL, "count", "(LBlueBag;I[J)I"⟩
abbrev cL_cell : ByteArray := method_5_code
def yL_cell : MethodName := ⟨RL, "cell", "(LBlueBag;II[J)I"⟩
abbrev cL_girl : ByteArray := method_6_code
def yL_girl : MethodName := ⟨RL, "girl", "(LBlueBag;II[J)I"⟩
abbrev cL_rest : ByteArray := method_7_code
def yL_rest : MethodName := ⟨RL, "rest", "(LBlueBag;IZ[J)I"⟩
abbrev cL_go : ByteArray := method_8_code
def yL_go : MethodName := ⟨RL, "go", "(LBlueBag;II[J)I"⟩
abbrev cL_peg : ByteArray := method_9_code
def yL_peg : MethodName := ⟨RL, "peg", "(LBlueBag;IZ[J)I"⟩
abbrev cL_then : ByteArray := method_10_code
def yL_then : MethodName := ⟨RL, "then", "(LBlueBag;II[J)I"⟩
abbrev cL_sky : ByteArray := method_11_code
def yL_sky : MethodName := ⟨RL, "sky", "(LBlueBag;II[J)I"⟩
abbrev cL_overdone : ByteArray := method_12_code
def yL_overdone : MethodName := ⟨RL, "overdone", "(LBlueBag;I[J)I"⟩
abbrev cL_first : ByteArray := method_13_code
def yL_first : MethodName := ⟨RL, "first", "(LBlueBag;I[J)I"⟩
abbrev cL_streak : ByteArray := method_14_code
def yL_streak : MethodName := ⟨RL, "streak", "(LBlueBag;I[J)I"⟩
abbrev cL_patch : ByteArray := method_15_code
def yL_patch : MethodName := ⟨RL, "patch", "(LBlueBag;II[J)I"⟩
abbrev cL_patches : ByteArray := method_16_code
def yL_patches : MethodName := ⟨RL, "patches", "(LBlueBag;I[J)I"⟩
abbrev cL_way : ByteArray := method_17_code
def yL_way : MethodName := ⟨RL, "way", "(LBlueBag;II[J)I"⟩
abbrev cL_toStand : ByteArray := method_18_code
def yL_toStand : MethodName := ⟨RL, "toStand", "(LBlueBag;II[J)I"⟩
abbrev cL_toSwish : ByteArray := method_19_code
def yL_toSwish : MethodName := ⟨RL, "toSwish", "(LBlueBag;II[J)I"⟩
abbrev cL_sent : ByteArray := method_20_code
def yL_sent : MethodName := ⟨RL, "sent", "(LBlueBag;II[J)I"⟩
abbrev cL_band : ByteArray := method_21_code
def yL_band : MethodName := ⟨RL, "band", "(LBlueBag;I[J)I"⟩
abbrev cL_steps : ByteArray := method_22_code
def yL_steps : MethodName := ⟨RL, "steps", "(LBlueBag;II[J)I"⟩
abbrev cL_nearest : ByteArray := method_23_code
def yL_nearest : MethodName := ⟨RL, "nearest", "(LBlueBag;I[J)I"⟩
abbrev cL_missed : ByteArray := method_24_code
def yL_missed : MethodName := ⟨RL, "missed", "(LBlueBag;I[J)I"⟩
abbrev cL_see : ByteArray := method_25_code
def yL_see : MethodName := ⟨RL, "see", "(LBlueBag;III[J)I"⟩
abbrev cL_skilled : ByteArray := method_26_code
def yL_skilled : MethodName := ⟨RL, "skilled", "(LBlueBag;I[J)I"⟩
abbrev cL_look : ByteArray := method_27_code
def yL_look : MethodName := ⟨RL, "look", "(LBlueBag;I[J)I"⟩
abbrev cL_game : ByteArray := method_28_code
def yL_game : MethodName := ⟨RL, "game", "(LBlueBag;III[J)I"⟩
abbrev cL_skies : ByteArray := method_29_code
def yL_skies : MethodName := ⟨RL, "skies", "(LBlueBag;III[J)I"⟩
abbrev cL_law : ByteArray := code
def yL_law : MethodName := ⟨RL, "law", "([I)Z"⟩
abbrev vwCl : List vw_C := [(RX0, TX0, 2), (RX1, TX1, 9), (RX2, TX2, 7), (RX3, TX3, 1), (RX4, TX4, 7), (RX5, TX5, 3), (RX6, TX6, 3), (RX7, TX7, 6), (RX8, TX8, 13), (RX9, TX9, 2), (RX10, TX10, 8), (RX11, TX11, 13), (RX12, TX12, 64)]
end
section
def FTT : List (List Nat) := [[1, 0], [0, 0, 0, 0, 0, 0, 1, 1, 1], [1, 1, 1, 1, 0, 0, 0], [0], [1, 1, 1, 1, 1, 1, 0], [1, 1, 0], [1, 2, 0], [1, 1, 1, 1, 0, 0], [1, 1, 1, 1, 1, 1, 1, 0, 0, 0, 0, 0, 0], [1, 0], [1, 0, 0, 0, 0, 0, 0, 0], [1, 1, 1, 1, 1, 1, 1, 1, 1, 1, 1, 0, 0], [1, 1, 1, 2, 0, 1, 1, 1, 1, 1, 1, 1, 1, 1, 1, 0, 0, 0, 0, 0, 0, 0, 0, 0, 0, 0, 0, 0, 1, 1, 1, 0, 0, 0, 0, 0, 0, 0, 1, 1, 1, 0, 1, 1, 1, 1, 1, 1, 1, 1, 1, 1, 0, 1, 0, 0, 0, 0, 1, 1, 1, 1, 1, 1]]
def nStr : Nat := 37
def strTab : List (String × Nat × String × List Int32) := [("BlueBag$CoastReader", 80, "sky", [115, 107, 121]), ("BlueBag$CoastReader", 89, "blue", [98, 108, 117, 101]), ("BlueBag$CoastReader", 94, "girl", [103, 105, 114, 108]), ("BlueBag$CoastReader", 100, "old", [111, 108, 100]), ("BlueBag$CoastReader", 102, "peg", [112, 101, 103]), ("BlueBag$CoastReader", 107, "knobs", [107, 110, 111, 98, 115]), ("BlueBag$CoastReader", 112, "rinse", [114, 105, 110, 115, 101]), ("BlueBag$CoastReader", 117, "bound", [98, 111, 117, 110, 100]), ("BlueBag$CoastReader", 122, "dyes", [100, 121, 101, 115]), ("BlueBag$RuleReader", 59, "not", [110, 111, 116]), ("BlueBag$RuleReader", 93, "blue", [98, 108, 117, 101]), ("BlueBag$RuleReader", 95, "beside", [98, 101, 115, 105, 100, 101]), ("BlueBag$RuleReader", 97, "row", [114, 111, 119]), ("BlueBag$RuleReader", 99, "day", [100, 97, 121]), ("BlueBag$RuleReader", 101, "skill", [115, 107, 105, 108, 108]), ("BlueBag$RuleReader", 103, "left", [108, 101, 102, 116]), ("BlueBag$RuleReader", 57, "and", [97, 110, 100]), ("BlueBag$RuleReader", 41, "or", [111, 114]), ("BlueBag$CoastReader", 127, "fades", [102, 97, 100, 101, 115]), ("BlueBagModel", 11, "girl", [103, 105, 114, 108]), ("BlueBagModel", 13, "old", [111, 108, 100]), ("BlueBagModel", 19, "blue", [98, 108, 117, 101]), ("BlueBagModel", 21, "beside", [98, 101, 115, 105, 100, 101]), ("BlueBagModel", 23, "row", [114, 111, 119]), ("BlueBagModel", 25, "day", [100, 97, 121]), ("BlueBagModel", 27, "skill", [115, 107, 105, 108, 108]), ("BlueBagModel", 29, "left", [108, 101, 102, 116]), ("BlueBagModel", 293, "sky", [115, 107, 121]), ("BlueBagModel", 295, "knobs", [107, 110, 111, 98, 115]), ("BlueBagModel", 296, "rinse", [114, 105, 110, 115, 101]), ("BlueBagModel", 298, "bound", [98, 111, 117, 110, 100]), ("BlueBagModel", 300, "dyes", [100, 121, 101, 115]), ("BlueBagModel", 302, "fades", [102, 97, 100, 101, 115]), ("BlueBagModel", 265, "not", [110, 111, 116]), ("BlueBagModel", 273, "and", [97, 110, 100]), ("BlueBagModel", 278, "or", [111, 114]), ("BlueBagModel", 313, "peg", [112, 101, 103])]
def strAt (k : Nat) : String × Nat × String × List Int32 := strTab.getD k ("", 0, "", [])
def strOwn (k : Nat) : String := (strAt k).1
def strIdx (k : Nat) : Nat := (strAt k).2.1
def strTx (k : Nat) : String := (strAt k).2.2.1
def strB (k : Nat) : List Int32 := (strAt k).2.2.2
end
section
abbrev Tb : Type := List (Nat × Instr × Nat)
def dck (c : ByteArray) (tb : Tb) : Bool := tb.all (fun e => decide (decode c e.1 = .ok e.2))
theorem dcg {c : ByteArray} {tb : Tb} (T : dck c tb = true) {i p n : Nat} {ins : Instr} (hi : tb[i]? = some (p, ins, n)) : decode c p = .ok (ins, n) := by
  have h := List.all_eq_true.mp T (p, ins, n) (List.mem_of_getElem? hi)
  exact of_decide_eq_true h
end
section
def tb_X9_init_0 : Tb := [(0, .aload_n 0, 1), (1, .invokespecial 3, 3), (4, .aload_n 0, 1), (5, .sipush 700, 3), (8, .newarray .byte, 2), (10, .putfield 9, 3), (13, .return_, 1)]
theorem tb_X9_init_0_ok : dck cX9_init tb_X9_init_0 = true := by decide +kernel
def tb_X5_init_0 : Tb := [(0, .aload_n 0, 1), (1, .invokespecial 3, 3), (4, .aload_n 0, 1), (5, .sipush 700, 3), (8, .newarray .int, 2), (10, .putfield 9, 3), (13, .aload_n 0, 1), (14, .bipush 40, 2), (16, .newarray .int, 2), (18, .putfield 15, 3), (21, .return_, 1)]
theorem tb_X5_init_0_ok : dck cX5_init tb_X5_init_0 = true := by decide +kernel
def tb_X1_cells_0 : Tb := [(0, .aload_n 0, 1), (1, .getfield 48, 3), (4, .aload_n 0, 1), (5, .getfield 51, 3), (8, .imul, 1), (9, .ireturn, 1)]
theorem tb_X1_cells_0_ok : dck cX1_cells tb_X1_cells_0 = true := by decide +kernel
def tb_X1_columnOf_0 : Tb := [(0, .aload_n 0, 1), (1, .getfield 48, 3), (4, .ifCond .le 12, 3), (7, .iload_n 1, 1), (8, .aload_n 0, 1), (9, .getfield 48, 3), (12, .irem, 1), (13, .goto 4, 3), (16, .iconst 0, 1), (17, .ireturn, 1)]
theorem tb_X1_columnOf_0_ok : dck cX1_columnOf tb_X1_columnOf_0 = true := by decide +kernel
def tb_X1_bitsBeside_0 : Tb := [(0, .iconst 0, 1), (1, .istore_n 2, 1), (2, .iload_n 1, 1), (3, .aload_n 0, 1), (4, .getfield 48, 3), (7, .if_icmp .lt 14, 3), (10, .iload_n 2, 1), (11, .iconst 1, 1), (12, .iload_n 1, 1), (13, .aload_n 0, 1), (14, .getfield 48, 3), (17, .isub, 1), (18, .ishl, 1), (19, .ior, 1), (20, .istore_n 2, 1), (21, .iload_n 1, 1), (22, .aload_n 0, 1), (23, .getfield 48, 3), (26, .iadd, 1), (27, .aload_n 0, 1), (28, .invokevirtual 54, 3), (31, .if_icmp .ge 14, 3), (34, .iload_n 2, 1), (35, .iconst 1, 1), (36, .iload_n 1, 1), (37, .aload_n 0, 1), (38, .getfield 48, 3), (41, .iadd, 1), (42, .ishl, 1), (43, .ior, 1), (44, .istore_n 2, 1), (45, .aload_n 0, 1), (46, .iload_n 1, 1), (47, .invokevirtual 62, 3), (50, .ifCond .le 11, 3), (53, .iload_n 2, 1), (54, .iconst 1, 1), (55, .iload_n 1, 1), (56, .iconst 1, 1), (57, .isub, 1)]
theorem tb_X1_bitsBeside_0_ok : dck cX1_bitsBeside tb_X1_bitsBeside_0 = true := by decide +kernel
def tb_X1_bitsBeside_1 : Tb := [(58, .ishl, 1), (59, .ior, 1), (60, .istore_n 2, 1), (61, .aload_n 0, 1), (62, .iload_n 1, 1), (63, .invokevirtual 62, 3), (66, .aload_n 0, 1), (67, .getfield 48, 3), (70, .iconst 1, 1), (71, .isub, 1), (72, .if_icmp .ge 11, 3), (75, .iload_n 2, 1), (76, .iconst 1, 1), (77, .iload_n 1, 1), (78, .iconst 1, 1), (79, .iadd, 1), (80, .ishl, 1), (81, .ior, 1), (82, .istore_n 2, 1), (83, .iload_n 2, 1), (84, .ireturn, 1)]
theorem tb_X1_bitsBeside_1_ok : dck cX1_bitsBeside tb_X1_bitsBeside_1 = true := by decide +kernel
def tb_X1_shape_0 : Tb := [(0, .aload_n 0, 1), (1, .iload_n 1, 1), (2, .putfield 48, 3), (5, .aload_n 0, 1), (6, .iload_n 2, 1), (7, .putfield 51, 3), (10, .iconst 0, 1), (11, .istore_n 3, 1), (12, .iload_n 3, 1), (13, .bipush 30, 2), (15, .if_icmp .ge 32, 3), (18, .aload_n 0, 1), (19, .getfield 9, 3), (22, .iload_n 3, 1), (23, .iload_n 3, 1), (24, .aload_n 0, 1), (25, .invokevirtual 54, 3), (28, .if_icmp .ge 11, 3), (31, .aload_n 0, 1), (32, .iload_n 3, 1), (33, .invokevirtual 58, 3), (36, .goto 4, 3), (39, .iconst 0, 1), (40, .iastore, 1), (41, .iinc 3 1, 3), (44, .goto (-32), 3), (47, .return_, 1)]
theorem tb_X1_shape_0_ok : dck cX1_shape tb_X1_shape_0 = true := by decide +kernel
def tb_X5_clear_0 : Tb := [(0, .aload_n 0, 1), (1, .iconst 0, 1), (2, .putfield 18, 3), (5, .return_, 1)]
theorem tb_X5_clear_0_ok : dck cX5_clear tb_X5_clear_0 = true := by decide +kernel
def tb_X1_begin_0 : Tb := [(0, .aload_n 0, 1), (1, .iconst 3, 1), (2, .iconst 3, 1), (3, .invokevirtual 28, 3), (6, .aload_n 0, 1), (7, .iconst 2, 1), (8, .putfield 32, 3), (11, .aload_n 0, 1), (12, .bipush 60, 2), (14, .putfield 36, 3), (17, .aload_n 0, 1), (18, .iconst 0, 1), (19, .putfield 39, 3), (22, .aload_n 0, 1), (23, .iconst 0, 1), (24, .putfield 42, 3), (27, .aload_n 0, 1), (28, .getfield 18, 3), (31, .invokevirtual 45, 3), (34, .aload_n 0, 1), (35, .getfield 22, 3), (38, .invokevirtual 45, 3), (41, .return_, 1)]
theorem tb_X1_begin_0_ok : dck cX1_begin tb_X1_begin_0 = true := by decide +kernel
def tb_X1_init_0 : Tb := [(0, .aload_n 0, 1), (1, .invokespecial 3, 3), (4, .aload_n 0, 1), (5, .bipush 30, 2), (7, .newarray .int, 2), (9, .putfield 9, 3), (12, .aload_n 0, 1), (13, .new 15, 3), (16, .dup, 1), (17, .invokespecial 17, 3), (20, .putfield 18, 3), (23, .aload_n 0, 1), (24, .new 15, 3), (27, .dup, 1), (28, .invokespecial 17, 3), (31, .putfield 22, 3), (34, .aload_n 0, 1), (35, .invokevirtual 25, 3), (38, .return_, 1)]
theorem tb_X1_init_0_ok : dck cX1_init tb_X1_init_0 = true := by decide +kernel
def tb_X8_begin_0 : Tb := [(0, .iconst 0, 1), (1, .istore_n 1, 1), (2, .iload_n 1, 1), (3, .bipush 30, 2), (5, .if_icmp .ge 16, 3), (8, .aload_n 0, 1), (9, .getfield 9, 3), (12, .iload_n 1, 1), (13, .iconst 0, 1), (14, .iastore, 1), (15, .iinc 1 1, 3), (18, .goto (-16), 3), (21, .iconst 0, 1), (22, .istore_n 1, 1), (23, .iload_n 1, 1), (24, .bipush 6, 2), (26, .if_icmp .ge 23, 3), (29, .aload_n 0, 1), (30, .getfield 21, 3), (33, .iload_n 1, 1), (34, .iconst 0, 1), (35, .iastore, 1), (36, .aload_n 0, 1), (37, .getfield 24, 3), (40, .iload_n 1, 1), (41, .iconst 0, 1), (42, .iastore, 1), (43, .iinc 1 1, 3), (46, .goto (-23), 3), (49, .aload_n 0, 1), (50, .iconst 0, 1), (51, .putfield 39, 3), (54, .aload_n 0, 1), (55, .iconst 0, 1), (56, .putfield 43, 3), (59, .aload_n 0, 1), (60, .bipush 20, 2), (62, .putfield 46, 3), (65, .aload_n 0, 1), (66, .iconst 0, 1)]
theorem tb_X8_begin_0_ok : dck cX8_begin tb_X8_begin_0 = true := by decide +kernel
def tb_X8_begin_1 : Tb := [(67, .putfield 49, 3), (70, .aload_n 0, 1), (71, .iconst 0, 1), (72, .putfield 52, 3), (75, .aload_n 0, 1), (76, .iconst 0, 1), (77, .putfield 55, 3), (80, .return_, 1)]
theorem tb_X8_begin_1_ok : dck cX8_begin tb_X8_begin_1 = true := by decide +kernel
def tb_X8_init_0 : Tb := [(0, .aload_n 0, 1), (1, .invokespecial 3, 3), (4, .aload_n 0, 1), (5, .bipush 30, 2), (7, .newarray .int, 2), (9, .putfield 9, 3), (12, .aload_n 0, 1), (13, .bipush 30, 2), (15, .newarray .int, 2), (17, .putfield 15, 3), (20, .aload_n 0, 1), (21, .bipush 30, 2), (23, .newarray .int, 2), (25, .putfield 18, 3), (28, .aload_n 0, 1), (29, .bipush 6, 2), (31, .newarray .int, 2), (33, .putfield 21, 3), (36, .aload_n 0, 1), (37, .bipush 6, 2), (39, .newarray .int, 2), (41, .putfield 24, 3), (44, .aload_n 0, 1), (45, .bipush 6, 2), (47, .newarray .int, 2), (49, .putfield 29, 3), (52, .aload_n 0, 1), (53, .aload_n 1, 1), (54, .putfield 32, 3), (57, .aload_n 0, 1), (58, .invokevirtual 36, 3), (61, .return_, 1)]
theorem tb_X8_init_0_ok : dck cX8_init tb_X8_init_0 = true := by decide +kernel
def tb_X10_init_0 : Tb := [(0, .aload_n 0, 1), (1, .invokespecial 3, 3), (4, .aload_n 0, 1), (5, .aload_n 1, 1), (6, .putfield 9, 3), (9, .return_, 1)]
theorem tb_X10_init_0_ok : dck cX10_init tb_X10_init_0 = true := by decide +kernel
def tb_X6_init_0 : Tb := [(0, .aload_n 0, 1), (1, .invokespecial 3, 3), (4, .aload_n 0, 1), (5, .aload_n 1, 1), (6, .putfield 9, 3), (9, .aload_n 0, 1), (10, .aload_n 2, 1), (11, .putfield 15, 3), (14, .return_, 1)]
theorem tb_X6_init_0_ok : dck cX6_init tb_X6_init_0 = true := by decide +kernel
def tb_X2_init_0 : Tb := [(0, .aload_n 0, 1), (1, .invokespecial 3, 3), (4, .aload_n 0, 1), (5, .new 9, 3), (8, .dup, 1), (9, .invokespecial 11, 3), (12, .putfield 12, 3), (15, .aload_n 0, 1), (16, .new 18, 3), (19, .dup, 1), (20, .aload_n 0, 1), (21, .getfield 12, 3), (24, .invokespecial 20, 3), (27, .putfield 23, 3), (30, .aload_n 0, 1), (31, .new 27, 3), (34, .dup, 1), (35, .aload_n 1, 1), (36, .invokespecial 29, 3), (39, .putfield 32, 3), (42, .aload_n 0, 1), (43, .new 36, 3), (46, .dup, 1), (47, .aload_n 0, 1), (48, .getfield 32, 3), (51, .aload_n 0, 1), (52, .getfield 12, 3), (55, .getfield 38, 3), (58, .invokespecial 42, 3), (61, .putfield 45, 3), (64, .return_, 1)]
theorem tb_X2_init_0_ok : dck cX2_init tb_X2_init_0 = true := by decide +kernel
def tb_X0_init_0 : Tb := [(0, .aload_n 0, 1), (1, .invokespecial 3, 3), (4, .aload_n 0, 1), (5, .sipush 1640, 3), (8, .newarray .int, 2), (10, .putfield 11, 3), (13, .return_, 1)]
theorem tb_X0_init_0_ok : dck cX0_init tb_X0_init_0 = true := by decide +kernel
def tb_X4_init_0 : Tb := [(0, .aload_n 0, 1), (1, .invokespecial 3, 3), (4, .aload_n 0, 1), (5, .new 9, 3), (8, .dup, 1), (9, .invokespecial 11, 3), (12, .putfield 12, 3), (15, .aload_n 0, 1), (16, .bipush 8, 2), (18, .newarray .int, 2), (20, .putfield 18, 3), (23, .aload_n 0, 1), (24, .bipush 8, 2), (26, .newarray .int, 2), (28, .putfield 22, 3), (31, .aload_n 0, 1), (32, .bipush 8, 2), (34, .newarray .int, 2), (36, .putfield 25, 3), (39, .aload_n 0, 1), (40, .iconst 3, 1), (41, .newarray .int, 2), (43, .putfield 28, 3), (46, .aload_n 0, 1), (47, .new 31, 3), (50, .dup, 1), (51, .aload_n 1, 1), (52, .invokespecial 33, 3), (55, .putfield 36, 3), (58, .return_, 1)]
theorem tb_X4_init_0_ok : dck cX4_init tb_X4_init_0 = true := by decide +kernel
def tb_X7_init_0 : Tb := [(0, .aload_n 0, 1), (1, .invokespecial 3, 3), (4, .aload_n 0, 1), (5, .bipush 6, 2), (7, .newarray .int, 2), (9, .putfield 9, 3), (12, .aload_n 0, 1), (13, .bipush 6, 2), (15, .newarray .int, 2), (17, .putfield 15, 3), (20, .aload_n 0, 1), (21, .bipush 6, 2), (23, .newarray .int, 2), (25, .putfield 18, 3), (28, .aload_n 0, 1), (29, .aload_n 1, 1), (30, .putfield 21, 3), (33, .return_, 1)]
theorem tb_X7_init_0_ok : dck cX7_init tb_X7_init_0 = true := by decide +kernel
def tb_X3_init_0 : Tb := [(0, .aload_n 0, 1), (1, .invokespecial 1, 3), (4, .return_, 1)]
theorem tb_X3_init_0_ok : dck cX3_init tb_X3_init_0 = true := by decide +kernel
def tb_X11_init_0 : Tb := [(0, .aload_n 0, 1), (1, .invokespecial 1, 3), (4, .aload_n 0, 1), (5, .new 7, 3), (8, .dup, 1), (9, .invokespecial 9, 3), (12, .putfield 10, 3), (15, .aload_n 0, 1), (16, .new 16, 3), (19, .dup, 1), (20, .invokespecial 18, 3), (23, .putfield 19, 3), (26, .aload_n 0, 1), (27, .new 23, 3), (30, .dup, 1), (31, .aload_n 0, 1), (32, .getfield 10, 3), (35, .invokespecial 25, 3), (38, .putfield 28, 3), (41, .aload_n 0, 1), (42, .new 32, 3), (45, .dup, 1), (46, .aload_n 0, 1), (47, .getfield 19, 3), (50, .invokespecial 34, 3), (53, .putfield 37, 3), (56, .aload_n 0, 1), (57, .new 32, 3), (60, .dup, 1), (61, .aload_n 0, 1), (62, .getfield 19, 3), (65, .invokespecial 34, 3), (68, .putfield 41, 3), (71, .aload_n 0, 1), (72, .new 44, 3), (75, .dup, 1), (76, .aload_n 0, 1), (77, .getfield 19, 3), (80, .invokespecial 46, 3), (83, .putfield 47, 3)]
theorem tb_X11_init_0_ok : dck cX11_init tb_X11_init_0 = true := by decide +kernel
def tb_X11_init_1 : Tb := [(86, .aload_n 0, 1), (87, .new 51, 3), (90, .dup, 1), (91, .aload_n 0, 1), (92, .getfield 37, 3), (95, .getfield 53, 3), (98, .invokespecial 56, 3), (101, .putfield 59, 3), (104, .aload_n 0, 1), (105, .new 63, 3), (108, .dup, 1), (109, .invokespecial 65, 3), (112, .putfield 66, 3), (115, .aload_n 0, 1), (116, .bipush 30, 2), (118, .newarray .long, 2), (120, .putfield 70, 3), (123, .aload_n 0, 1), (124, .bipush 30, 2), (126, .newarray .long, 2), (128, .putfield 74, 3), (131, .aload_n 0, 1), (132, .bipush 8, 2), (134, .newarray .int, 2), (136, .putfield 77, 3), (139, .aload_n 0, 1), (140, .iconst (-1), 1), (141, .putfield 81, 3), (144, .return_, 1)]
theorem tb_X11_init_1_ok : dck cX11_init tb_X11_init_1 = true := by decide +kernel
def tb_X9_hasRoomFor_0 : Tb := [(0, .aload_n 0, 1), (1, .getfield 15, 3), (4, .iload_n 1, 1), (5, .iadd, 1), (6, .sipush 700, 3), (9, .if_icmp .gt 7, 3), (12, .iconst 1, 1), (13, .goto 4, 3), (16, .iconst 0, 1), (17, .ireturn, 1)]
theorem tb_X9_hasRoomFor_0_ok : dck cX9_hasRoomFor tb_X9_hasRoomFor_0 = true := by decide +kernel
def tb_X9_put_0 : Tb := [(0, .bipush 24, 2), (2, .istore_n 2, 1), (3, .iload_n 2, 1), (4, .ifCond .lt 51, 3), (7, .aload_n 0, 1), (8, .getfield 15, 3), (11, .ifCond .lt 38, 3), (14, .aload_n 0, 1), (15, .getfield 15, 3), (18, .aload_n 0, 1), (19, .getfield 9, 3), (22, .arraylength, 1), (23, .if_icmp .ge 26, 3), (26, .aload_n 0, 1), (27, .getfield 9, 3), (30, .aload_n 0, 1), (31, .getfield 15, 3), (34, .iload_n 1, 1), (35, .iload_n 2, 1), (36, .ishr, 1), (37, .i2b, 1), (38, .bastore, 1), (39, .aload_n 0, 1), (40, .dup, 1), (41, .getfield 15, 3), (44, .iconst 1, 1), (45, .iadd, 1), (46, .putfield 15, 3), (49, .iinc 2 (-8), 3), (52, .goto (-49), 3), (55, .return_, 1)]
theorem tb_X9_put_0_ok : dck cX9_put tb_X9_put_0 = true := by decide +kernel
def tb_X11_feed_0 : Tb := [(0, .aload_n 0, 1), (1, .getfield 10, 3), (4, .bipush 20, 2), (6, .invokevirtual 85, 3), (9, .ifCond .ne 5, 3), (12, .iconst (-1), 1), (13, .ireturn, 1), (14, .aload_n 0, 1), (15, .getfield 10, 3), (18, .iload_n 1, 1), (19, .invokevirtual 89, 3), (22, .aload_n 0, 1), (23, .getfield 10, 3), (26, .iload_n 2, 1), (27, .invokevirtual 89, 3), (30, .aload_n 0, 1), (31, .getfield 10, 3), (34, .iload_n 3, 1), (35, .invokevirtual 89, 3), (38, .aload_n 0, 1), (39, .getfield 10, 3), (42, .iload 4, 2), (44, .invokevirtual 89, 3), (47, .aload_n 0, 1), (48, .getfield 10, 3), (51, .iload 5, 2), (53, .invokevirtual 89, 3), (56, .aload_n 0, 1), (57, .getfield 10, 3), (60, .getfield 93, 3), (63, .ireturn, 1)]
theorem tb_X11_feed_0_ok : dck cX11_feed tb_X11_feed_0 = true := by decide +kernel
def tb_X11_fault_0 : Tb := [(0, .aload_n 0, 1), (1, .getfield 81, 3), (4, .ireturn, 1)]
theorem tb_X11_fault_0_ok : dck cX11_fault tb_X11_fault_0 = true := by decide +kernel
def tb_X4_refuse_0 : Tb := [(0, .iload_n 1, 1), (1, .ifCond .lt 18, 3), (4, .iload_n 1, 1), (5, .iconst 3, 1), (6, .if_icmp .ge 13, 3), (9, .aload_n 0, 1), (10, .getfield 28, 3), (13, .iload_n 1, 1), (14, .dup2, 1), (15, .iaload, 1), (16, .iconst 1, 1), (17, .iadd, 1), (18, .iastore, 1), (19, .return_, 1)]
theorem tb_X4_refuse_0_ok : dck cX4_refuse tb_X4_refuse_0 = true := by decide +kernel
def tb_X11_refuseAct_0 : Tb := [(0, .aload_n 0, 1), (1, .getfield 37, 3), (4, .iconst 1, 1), (5, .invokevirtual 109, 3), (8, .iconst (-1), 1), (9, .ireturn, 1)]
theorem tb_X11_refuseAct_0_ok : dck cX11_refuseAct tb_X11_refuseAct_0 = true := by decide +kernel
def tb_X8_save_0 : Tb := [(0, .iload_n 2, 1), (1, .ifCond .lt 12, 3), (4, .iload_n 2, 1), (5, .aload_n 1, 1), (6, .arraylength, 1), (7, .bipush 41, 2), (9, .isub, 1), (10, .if_icmp .le 4, 3), (13, .return_, 1), (14, .aload_n 0, 1), (15, .getfield 9, 3), (18, .iconst 0, 1), (19, .aload_n 1, 1), (20, .iload_n 2, 1), (21, .bipush 30, 2), (23, .invokestatic 58, 3), (26, .aload_n 0, 1), (27, .getfield 21, 3), (30, .iconst 0, 1), (31, .aload_n 1, 1), (32, .iload_n 2, 1), (33, .bipush 30, 2), (35, .iadd, 1), (36, .bipush 6, 2), (38, .invokestatic 58, 3), (41, .iload_n 2, 1), (42, .bipush 30, 2), (44, .iadd, 1), (45, .bipush 6, 2), (47, .iadd, 1), (48, .istore_n 3, 1), (49, .aload_n 1, 1), (50, .iload_n 3, 1), (51, .aload_n 0, 1), (52, .getfield 39, 3), (55, .iastore, 1), (56, .aload_n 1, 1), (57, .iload_n 3, 1), (58, .iconst 1, 1), (59, .iadd, 1)]
theorem tb_X8_save_0_ok : dck cX8_save tb_X8_save_0 = true := by decide +kernel
def tb_X8_save_1 : Tb := [(60, .aload_n 0, 1), (61, .getfield 43, 3), (64, .iastore, 1), (65, .aload_n 1, 1), (66, .iload_n 3, 1), (67, .iconst 2, 1), (68, .iadd, 1), (69, .aload_n 0, 1), (70, .getfield 46, 3), (73, .iastore, 1), (74, .aload_n 1, 1), (75, .iload_n 3, 1), (76, .iconst 3, 1), (77, .iadd, 1), (78, .aload_n 0, 1), (79, .getfield 49, 3), (82, .iastore, 1), (83, .aload_n 1, 1), (84, .iload_n 3, 1), (85, .iconst 4, 1), (86, .iadd, 1), (87, .aload_n 0, 1), (88, .getfield 52, 3), (91, .iastore, 1), (92, .return_, 1)]
theorem tb_X8_save_1_ok : dck cX8_save tb_X8_save_1 = true := by decide +kernel
def tb_X0_keep_0 : Tb := [(0, .aload_n 0, 1), (1, .getfield 17, 3), (4, .bipush 40, 2), (6, .if_icmp .lt 26, 3), (9, .aload_n 0, 1), (10, .getfield 11, 3), (13, .bipush 41, 2), (15, .aload_n 0, 1), (16, .getfield 11, 3), (19, .iconst 0, 1), (20, .sipush 1599, 3), (23, .invokestatic 21, 3), (26, .aload_n 0, 1), (27, .bipush 39, 2), (29, .putfield 17, 3), (32, .aload_n 1, 1), (33, .aload_n 0, 1), (34, .getfield 11, 3), (37, .aload_n 0, 1), (38, .getfield 17, 3), (41, .bipush 41, 2), (43, .imul, 1), (44, .invokevirtual 27, 3), (47, .aload_n 0, 1), (48, .dup, 1), (49, .getfield 17, 3), (52, .iconst 1, 1), (53, .iadd, 1), (54, .putfield 17, 3), (57, .return_, 1)]
theorem tb_X0_keep_0_ok : dck cX0_keep tb_X0_keep_0 = true := by decide +kernel
def tb_X4_keepAct_0 : Tb := [(0, .aload_n 0, 1), (1, .getfield 12, 3), (4, .aload_n 0, 1), (5, .getfield 36, 3), (8, .invokevirtual 60, 3), (11, .return_, 1)]
theorem tb_X4_keepAct_0_ok : dck cX4_keepAct tb_X4_keepAct_0 = true := by decide +kernel
def tb_X8_isResting_0 : Tb := [(0, .aload_n 0, 1), (1, .getfield 43, 3), (4, .iload_n 1, 1), (5, .ishr, 1), (6, .iconst 1, 1), (7, .iand, 1), (8, .ifCond .eq 7, 3), (11, .iconst 1, 1), (12, .goto 4, 3), (15, .iconst 0, 1), (16, .ireturn, 1)]
theorem tb_X8_isResting_0_ok : dck cX8_isResting tb_X8_isResting_0 = true := by decide +kernel
def tb_X5_isTold_0 : Tb := [(0, .aload_n 0, 1), (1, .getfield 18, 3), (4, .ifCond .le 7, 3), (7, .iconst 1, 1), (8, .goto 4, 3), (11, .iconst 0, 1), (12, .ireturn, 1)]
theorem tb_X5_isTold_0_ok : dck cX5_isTold tb_X5_isTold_0 = true := by decide +kernel
def tb_X8_skillOf_0 : Tb := [(0, .iload_n 1, 1), (1, .ifCond .lt 18, 3), (4, .iload_n 1, 1), (5, .bipush 6, 2), (7, .if_icmp .ge 12, 3), (10, .aload_n 0, 1), (11, .getfield 24, 3), (14, .iload_n 1, 1), (15, .iaload, 1), (16, .goto 4, 3), (19, .iconst 0, 1), (20, .ireturn, 1)]
theorem tb_X8_skillOf_0_ok : dck cX8_skillOf tb_X8_skillOf_0 = true := by decide +kernel
def tb_X8_spotOf_0 : Tb := [(0, .iload_n 1, 1), (1, .ifCond .lt 18, 3), (4, .iload_n 1, 1), (5, .bipush 6, 2), (7, .if_icmp .ge 12, 3), (10, .aload_n 0, 1), (11, .getfield 21, 3), (14, .iload_n 1, 1), (15, .iaload, 1), (16, .goto 4, 3), (19, .iconst 0, 1), (20, .ireturn, 1)]
theorem tb_X8_spotOf_0_ok : dck cX8_spotOf tb_X8_spotOf_0 = true := by decide +kernel
def tb_X1_besideBits_0 : Tb := [(0, .iload_n 1, 1), (1, .ifCond .lt 18, 3), (4, .iload_n 1, 1), (5, .bipush 30, 2), (7, .if_icmp .ge 12, 3), (10, .aload_n 0, 1), (11, .getfield 9, 3), (14, .iload_n 1, 1), (15, .iaload, 1), (16, .goto 4, 3), (19, .iconst 0, 1), (20, .ireturn, 1)]
theorem tb_X1_besideBits_0_ok : dck cX1_besideBits tb_X1_besideBits_0 = true := by decide +kernel
def tb_X8_blueOf_0 : Tb := [(0, .iload_n 1, 1), (1, .ifCond .lt 18, 3), (4, .iload_n 1, 1), (5, .bipush 30, 2), (7, .if_icmp .ge 12, 3), (10, .aload_n 0, 1), (11, .getfield 9, 3), (14, .iload_n 1, 1), (15, .iaload, 1), (16, .goto 4, 3), (19, .iconst 0, 1), (20, .ireturn, 1)]
theorem tb_X8_blueOf_0_ok : dck cX8_blueOf tb_X8_blueOf_0 = true := by decide +kernel
def tb_X1_rowOf_0 : Tb := [(0, .aload_n 0, 1), (1, .getfield 48, 3), (4, .ifCond .le 12, 3), (7, .iload_n 1, 1), (8, .aload_n 0, 1), (9, .getfield 48, 3), (12, .idiv, 1), (13, .goto 4, 3), (16, .iconst 0, 1), (17, .ireturn, 1)]
theorem tb_X1_rowOf_0_ok : dck cX1_rowOf tb_X1_rowOf_0 = true := by decide +kernel
def tb_X8_setValues_0 : Tb := [(0, .aload_n 0, 1), (1, .getfield 32, 3), (4, .iload_n 1, 1), (5, .invokevirtual 144, 3), (8, .istore_n 2, 1), (9, .iconst 0, 1), (10, .istore_n 3, 1), (11, .iconst 0, 1), (12, .istore 4, 2), (14, .iload 4, 2), (16, .bipush 30, 2), (18, .if_icmp .ge 28, 3), (21, .iload_n 2, 1), (22, .iload 4, 2), (24, .ishr, 1), (25, .iconst 1, 1), (26, .iand, 1), (27, .ifCond .eq 13, 3), (30, .iload_n 3, 1), (31, .aload_n 0, 1), (32, .getfield 9, 3), (35, .iload 4, 2), (37, .iaload, 1), (38, .iadd, 1), (39, .istore_n 3, 1), (40, .iinc 4 1, 3), (43, .goto (-29), 3), (46, .aload_n 0, 1), (47, .getfield 29, 3), (50, .iconst 0, 1), (51, .aload_n 0, 1), (52, .iload_n 1, 1), (53, .invokevirtual 118, 3), (56, .iastore, 1), (57, .aload_n 0, 1), (58, .getfield 29, 3), (61, .iconst 1, 1), (62, .iload_n 3, 1), (63, .iastore, 1), (64, .aload_n 0, 1)]
theorem tb_X8_setValues_0_ok : dck cX8_setValues tb_X8_setValues_0 = true := by decide +kernel
def tb_X8_setValues_1 : Tb := [(65, .getfield 29, 3), (68, .iconst 2, 1), (69, .aload_n 0, 1), (70, .getfield 32, 3), (73, .iload_n 1, 1), (74, .invokevirtual 160, 3), (77, .iastore, 1), (78, .aload_n 0, 1), (79, .getfield 29, 3), (82, .iconst 3, 1), (83, .aload_n 0, 1), (84, .getfield 52, 3), (87, .iastore, 1), (88, .return_, 1)]
theorem tb_X8_setValues_1_ok : dck cX8_setValues tb_X8_setValues_1 = true := by decide +kernel
def tb_X5_joined_0 : Tb := [(0, .iload_n 0, 1), (1, .tableswitch 109 (-18) (-11) #[105, 101, 97, 86, 75, 109, 61, 47], 47), (48, .iload_n 1, 1), (49, .ifCond .ne 7, 3), (52, .iload_n 2, 1), (53, .ifCond .eq 7, 3), (56, .iconst 1, 1), (57, .goto 4, 3), (60, .iconst 0, 1), (61, .ireturn, 1), (62, .iload_n 1, 1), (63, .ifCond .eq 11, 3), (66, .iload_n 2, 1), (67, .ifCond .eq 7, 3), (70, .iconst 1, 1), (71, .goto 4, 3), (74, .iconst 0, 1), (75, .ireturn, 1), (76, .iload_n 1, 1), (77, .iload_n 2, 1), (78, .if_icmp .ge 7, 3), (81, .iconst 1, 1), (82, .goto 4, 3), (85, .iconst 0, 1), (86, .ireturn, 1), (87, .iload_n 1, 1), (88, .iload_n 2, 1), (89, .if_icmp .ne 7, 3), (92, .iconst 1, 1), (93, .goto 4, 3), (96, .iconst 0, 1), (97, .ireturn, 1), (98, .iload_n 1, 1), (99, .iload_n 2, 1), (100, .iadd, 1), (101, .ireturn, 1), (102, .iload_n 1, 1), (103, .iload_n 2, 1), (104, .isub, 1), (105, .ireturn, 1)]
theorem tb_X5_joined_0_ok : dck cX5_joined tb_X5_joined_0 = true := by decide +kernel
def tb_X5_joined_1 : Tb := [(106, .iload_n 1, 1), (107, .iload_n 2, 1), (108, .imul, 1), (109, .ireturn, 1), (110, .iload_n 2, 1), (111, .ifCond .ne 7, 3), (114, .iconst 0, 1), (115, .goto 6, 3), (118, .iload_n 1, 1), (119, .iload_n 2, 1), (120, .idiv, 1), (121, .ireturn, 1)]
theorem tb_X5_joined_1_ok : dck cX5_joined tb_X5_joined_1 = true := by decide +kernel
def tb_X5_worth_0 : Tb := [(0, .iconst 0, 1), (1, .istore_n 2, 1), (2, .iconst 0, 1), (3, .istore_n 3, 1), (4, .iload_n 3, 1), (5, .aload_n 0, 1), (6, .getfield 18, 3), (9, .if_icmp .ge 152, 3), (12, .iload_n 3, 1), (13, .aload_n 0, 1), (14, .getfield 9, 3), (17, .arraylength, 1), (18, .if_icmp .ge 143, 3), (21, .aload_n 0, 1), (22, .getfield 9, 3), (25, .iload_n 3, 1), (26, .iaload, 1), (27, .istore 4, 2), (29, .iload 4, 2), (31, .bipush (-6), 2), (33, .if_icmp .lt 48, 3), (36, .iconst (-1), 1), (37, .iload 4, 2), (39, .isub, 1), (40, .istore 5, 2), (42, .iload_n 2, 1), (43, .bipush 40, 2), (45, .if_icmp .ge 33, 3), (48, .aload_n 0, 1), (49, .getfield 15, 3), (52, .iload_n 2, 1), (53, .iload 5, 2), (55, .ifCond .lt 17, 3), (58, .iload 5, 2), (60, .aload_n 1, 1), (61, .arraylength, 1), (62, .if_icmp .ge 10, 3), (65, .aload_n 1, 1), (66, .iload 5, 2), (68, .iaload, 1)]
theorem tb_X5_worth_0_ok : dck cX5_worth tb_X5_worth_0 = true := by decide +kernel
def tb_X5_worth_1 : Tb := [(69, .goto 5, 3), (72, .iload 4, 2), (74, .iastore, 1), (75, .iinc 2 1, 3), (78, .goto 77, 3), (81, .iload 4, 2), (83, .bipush (-13), 2), (85, .if_icmp .ne 35, 3), (88, .iload_n 2, 1), (89, .iconst 1, 1), (90, .if_icmp .lt 65, 3), (93, .aload_n 0, 1), (94, .getfield 15, 3), (97, .iload_n 2, 1), (98, .iconst 1, 1), (99, .isub, 1), (100, .aload_n 0, 1), (101, .getfield 15, 3), (104, .iload_n 2, 1), (105, .iconst 1, 1), (106, .isub, 1), (107, .iaload, 1), (108, .ifCond .ne 7, 3), (111, .iconst 1, 1), (112, .goto 4, 3), (115, .iconst 0, 1), (116, .iastore, 1), (117, .goto 38, 3), (120, .iload_n 2, 1), (121, .iconst 2, 1), (122, .if_icmp .lt 33, 3), (125, .iinc 2 (-1), 3), (128, .aload_n 0, 1), (129, .getfield 15, 3), (132, .iload_n 2, 1), (133, .iconst 1, 1), (134, .isub, 1), (135, .iload 4, 2), (137, .aload_n 0, 1), (138, .getfield 15, 3)]
theorem tb_X5_worth_1_ok : dck cX5_worth tb_X5_worth_1 = true := by decide +kernel
def tb_X5_worth_2 : Tb := [(141, .iload_n 2, 1), (142, .iconst 1, 1), (143, .isub, 1), (144, .iaload, 1), (145, .aload_n 0, 1), (146, .getfield 15, 3), (149, .iload_n 2, 1), (150, .iaload, 1), (151, .invokestatic 32, 3), (154, .iastore, 1), (155, .iinc 3 1, 3), (158, .goto (-154), 3), (161, .iload_n 2, 1), (162, .iconst 1, 1), (163, .if_icmp .lt 14, 3), (166, .aload_n 0, 1), (167, .getfield 15, 3), (170, .iload_n 2, 1), (171, .iconst 1, 1), (172, .isub, 1), (173, .iaload, 1), (174, .goto 4, 3), (177, .iconst 0, 1), (178, .ireturn, 1)]
theorem tb_X5_worth_2_ok : dck cX5_worth tb_X5_worth_2 = true := by decide +kernel
def tb_X8_dyeOf_0 : Tb := [(0, .aload_n 0, 1), (1, .getfield 32, 3), (4, .getfield 154, 3), (7, .invokevirtual 114, 3), (10, .ifCond .ne 13, 3), (13, .iconst 2, 1), (14, .aload_n 0, 1), (15, .iload_n 1, 1), (16, .invokevirtual 157, 3), (19, .imul, 1), (20, .iconst 3, 1), (21, .iadd, 1), (22, .ireturn, 1), (23, .aload_n 0, 1), (24, .aload_n 0, 1), (25, .iload_n 1, 1), (26, .invokevirtual 132, 3), (29, .invokevirtual 121, 3), (32, .aload_n 0, 1), (33, .getfield 29, 3), (36, .iconst 4, 1), (37, .aload_n 0, 1), (38, .iload_n 1, 1), (39, .invokevirtual 157, 3), (42, .iastore, 1), (43, .aload_n 0, 1), (44, .getfield 29, 3), (47, .iconst 5, 1), (48, .iload_n 2, 1), (49, .iastore, 1), (50, .iconst 0, 1), (51, .bipush 30, 2), (53, .aload_n 0, 1), (54, .getfield 32, 3), (57, .getfield 154, 3), (60, .aload_n 0, 1), (61, .getfield 29, 3), (64, .invokevirtual 125, 3), (67, .invokestatic 64, 3), (70, .invokestatic 92, 3)]
theorem tb_X8_dyeOf_0_ok : dck cX8_dyeOf tb_X8_dyeOf_0 = true := by decide +kernel
def tb_X8_dyeOf_1 : Tb := [(73, .ireturn, 1)]
theorem tb_X8_dyeOf_1_ok : dck cX8_dyeOf tb_X8_dyeOf_1 = true := by decide +kernel
def tb_X8_isPegged_0 : Tb := [(0, .aload_n 0, 1), (1, .getfield 39, 3), (4, .iload_n 1, 1), (5, .ishr, 1), (6, .iconst 1, 1), (7, .iand, 1), (8, .ifCond .eq 7, 3), (11, .iconst 1, 1), (12, .goto 4, 3), (15, .iconst 0, 1), (16, .ireturn, 1)]
theorem tb_X8_isPegged_0_ok : dck cX8_isPegged tb_X8_isPegged_0 = true := by decide +kernel
def tb_X8_addBlue_0 : Tb := [(0, .iload_n 1, 1), (1, .ifCond .lt 36, 3), (4, .iload_n 1, 1), (5, .bipush 30, 2), (7, .if_icmp .ge 30, 3), (10, .aload_n 0, 1), (11, .iload_n 1, 1), (12, .invokevirtual 70, 3), (15, .ifCond .ne 22, 3), (18, .aload_n 0, 1), (19, .getfield 9, 3), (22, .iload_n 1, 1), (23, .bipush 99, 2), (25, .aload_n 0, 1), (26, .getfield 9, 3), (29, .iload_n 1, 1), (30, .iaload, 1), (31, .iload_n 2, 1), (32, .iadd, 1), (33, .invokestatic 64, 3), (36, .iastore, 1), (37, .return_, 1)]
theorem tb_X8_addBlue_0_ok : dck cX8_addBlue tb_X8_addBlue_0 = true := by decide +kernel
def tb_X1_isOld_0 : Tb := [(0, .aload_n 0, 1), (1, .getfield 42, 3), (4, .iload_n 1, 1), (5, .ishr, 1), (6, .iconst 1, 1), (7, .iand, 1), (8, .ifCond .eq 7, 3), (11, .iconst 1, 1), (12, .goto 4, 3), (15, .iconst 0, 1), (16, .ireturn, 1)]
theorem tb_X1_isOld_0_ok : dck cX1_isOld tb_X1_isOld_0 = true := by decide +kernel
def tb_X8_drip_0 : Tb := [(0, .iload_n 2, 1), (1, .istore_n 3, 1), (2, .iconst 0, 1), (3, .istore 4, 2), (5, .iload 4, 2), (7, .aload_n 0, 1), (8, .getfield 32, 3), (11, .invokevirtual 147, 3), (14, .if_icmp .ge 46, 3), (17, .iload 4, 2), (19, .iload_n 1, 1), (20, .if_icmp .le 34, 3), (23, .aload_n 0, 1), (24, .getfield 32, 3), (27, .iload 4, 2), (29, .invokevirtual 151, 3), (32, .aload_n 0, 1), (33, .getfield 32, 3), (36, .iload_n 1, 1), (37, .invokevirtual 151, 3), (40, .if_icmp .ne 14, 3), (43, .aload_n 0, 1), (44, .iload 4, 2), (46, .iload_n 3, 1), (47, .invokevirtual 135, 3), (50, .iload_n 3, 1), (51, .iconst 2, 1), (52, .idiv, 1), (53, .istore_n 3, 1), (54, .iinc 4 1, 3), (57, .goto (-52), 3), (60, .return_, 1)]
theorem tb_X8_drip_0_ok : dck cX8_drip tb_X8_drip_0 = true := by decide +kernel
def tb_X8_swish_0 : Tb := [(0, .aload_n 0, 1), (1, .iload_n 1, 1), (2, .iload_n 2, 1), (3, .invokevirtual 129, 3), (6, .istore_n 3, 1), (7, .aload_n 0, 1), (8, .iload_n 1, 1), (9, .invokevirtual 132, 3), (12, .istore 4, 2), (14, .aload_n 0, 1), (15, .iload 4, 2), (17, .iload_n 3, 1), (18, .invokevirtual 135, 3), (21, .aload_n 0, 1), (22, .getfield 32, 3), (25, .iload_n 1, 1), (26, .invokevirtual 138, 3), (29, .ifCond .eq 15, 3), (32, .aload_n 0, 1), (33, .iload 4, 2), (35, .iload_n 3, 1), (36, .iconst 2, 1), (37, .idiv, 1), (38, .invokevirtual 141, 3), (41, .goto 54, 3), (44, .aload_n 0, 1), (45, .getfield 32, 3), (48, .iload 4, 2), (50, .invokevirtual 144, 3), (53, .istore 5, 2), (55, .iconst 0, 1), (56, .istore 6, 2), (58, .iload 6, 2), (60, .aload_n 0, 1), (61, .getfield 32, 3), (64, .invokevirtual 147, 3), (67, .if_icmp .ge 28, 3), (70, .iload 5, 2), (72, .iload 6, 2), (74, .ishr, 1)]
theorem tb_X8_swish_0_ok : dck cX8_swish tb_X8_swish_0 = true := by decide +kernel
def tb_X8_swish_1 : Tb := [(75, .iconst 1, 1), (76, .iand, 1), (77, .ifCond .eq 12, 3), (80, .aload_n 0, 1), (81, .iload 6, 2), (83, .iload_n 3, 1), (84, .iconst 2, 1), (85, .idiv, 1), (86, .invokevirtual 135, 3), (89, .iinc 6 1, 3), (92, .goto (-34), 3), (95, .return_, 1)]
theorem tb_X8_swish_1_ok : dck cX8_swish tb_X8_swish_1 = true := by decide +kernel
def tb_J6_bitCount_0f7a4_0 : Tb := [(0, .iload_n 0, 1), (1, .iload_n 0, 1), (2, .iconst 1, 1), (3, .iushr, 1), (4, .ldc_w 265, 3), (7, .iand, 1), (8, .isub, 1), (9, .istore_n 0, 1), (10, .iload_n 0, 1), (11, .ldc_w 266, 3), (14, .iand, 1), (15, .iload_n 0, 1), (16, .iconst 2, 1), (17, .iushr, 1), (18, .ldc_w 266, 3), (21, .iand, 1), (22, .iadd, 1), (23, .istore_n 0, 1), (24, .iload_n 0, 1), (25, .iload_n 0, 1), (26, .iconst 4, 1), (27, .iushr, 1), (28, .iadd, 1), (29, .ldc_w 267, 3), (32, .iand, 1), (33, .istore_n 0, 1), (34, .iload_n 0, 1), (35, .iload_n 0, 1), (36, .bipush 8, 2), (38, .iushr, 1), (39, .iadd, 1), (40, .istore_n 0, 1), (41, .iload_n 0, 1), (42, .iload_n 0, 1), (43, .bipush 16, 2), (45, .iushr, 1), (46, .iadd, 1), (47, .istore_n 0, 1), (48, .iload_n 0, 1), (49, .bipush 63, 2)]
theorem tb_J6_bitCount_0f7a4_0_ok : dck cJ6_bitCount_0f7a4 tb_J6_bitCount_0f7a4_0 = true := by decide +kernel
def tb_J6_bitCount_0f7a4_1 : Tb := [(51, .iand, 1), (52, .ireturn, 1)]
theorem tb_J6_bitCount_0f7a4_1_ok : dck cJ6_bitCount_0f7a4 tb_J6_bitCount_0f7a4_1 = true := by decide +kernel
end
section
def tb_X8_markOverdone_0 : Tb := [(0, .aload_n 0, 1), (1, .iconst 0, 1), (2, .putfield 55, 3), (5, .iconst 0, 1), (6, .istore_n 1, 1), (7, .iload_n 1, 1), (8, .bipush 30, 2), (10, .if_icmp .ge 37, 3), (13, .aload_n 0, 1), (14, .getfield 9, 3), (17, .iload_n 1, 1), (18, .iaload, 1), (19, .aload_n 0, 1), (20, .getfield 32, 3), (23, .getfield 98, 3), (26, .if_icmp .le 15, 3), (29, .aload_n 0, 1), (30, .dup, 1), (31, .getfield 55, 3), (34, .iconst 1, 1), (35, .iload_n 1, 1), (36, .ishl, 1), (37, .ior, 1), (38, .putfield 55, 3), (41, .iinc 1 1, 3), (44, .goto (-37), 3), (47, .aload_n 0, 1), (48, .sipush 9999, 3), (51, .aload_n 0, 1), (52, .getfield 49, 3), (55, .aload_n 0, 1), (56, .getfield 55, 3), (59, .invokestatic 101, 3), (62, .iadd, 1), (63, .invokestatic 64, 3), (66, .putfield 49, 3), (69, .return_, 1)]
theorem tb_X8_markOverdone_0_ok : dck cX8_markOverdone tb_X8_markOverdone_0 = true := by decide +kernel
def tb_X8_fadeOf_0 : Tb := [(0, .aload_n 0, 1), (1, .getfield 32, 3), (4, .getfield 110, 3), (7, .invokevirtual 114, 3), (10, .ifCond .ne 11, 3), (13, .aload_n 0, 1), (14, .iload_n 1, 1), (15, .invokevirtual 118, 3), (18, .iconst 5, 1), (19, .idiv, 1), (20, .ireturn, 1), (21, .aload_n 0, 1), (22, .iload_n 1, 1), (23, .invokevirtual 118, 3), (26, .ifCond .ne 5, 3), (29, .iconst 0, 1), (30, .ireturn, 1), (31, .aload_n 0, 1), (32, .iload_n 1, 1), (33, .invokevirtual 121, 3), (36, .iconst 0, 1), (37, .aload_n 0, 1), (38, .iload_n 1, 1), (39, .invokevirtual 118, 3), (42, .aload_n 0, 1), (43, .getfield 32, 3), (46, .getfield 110, 3), (49, .aload_n 0, 1), (50, .getfield 29, 3), (53, .invokevirtual 125, 3), (56, .invokestatic 64, 3), (59, .invokestatic 92, 3), (62, .ireturn, 1)]
theorem tb_X8_fadeOf_0_ok : dck cX8_fadeOf tb_X8_fadeOf_0 = true := by decide +kernel
def tb_X8_fade_0 : Tb := [(0, .iconst 0, 1), (1, .istore_n 1, 1), (2, .iload_n 1, 1), (3, .bipush 30, 2), (5, .if_icmp .ge 20, 3), (8, .aload_n 0, 1), (9, .getfield 18, 3), (12, .iload_n 1, 1), (13, .aload_n 0, 1), (14, .iload_n 1, 1), (15, .invokevirtual 107, 3), (18, .iastore, 1), (19, .iinc 1 1, 3), (22, .goto (-20), 3), (25, .iconst 0, 1), (26, .istore_n 1, 1), (27, .iload_n 1, 1), (28, .bipush 30, 2), (30, .if_icmp .ge 24, 3), (33, .aload_n 0, 1), (34, .getfield 9, 3), (37, .iload_n 1, 1), (38, .dup2, 1), (39, .iaload, 1), (40, .aload_n 0, 1), (41, .getfield 18, 3), (44, .iload_n 1, 1), (45, .iaload, 1), (46, .isub, 1), (47, .iastore, 1), (48, .iinc 1 1, 3), (51, .goto (-24), 3), (54, .return_, 1)]
theorem tb_X8_fade_0_ok : dck cX8_fade tb_X8_fade_0 = true := by decide +kernel
def tb_X8_passDay_0 : Tb := [(0, .aload_n 0, 1), (1, .getfield 9, 3), (4, .iconst 0, 1), (5, .aload_n 0, 1), (6, .getfield 15, 3), (9, .iconst 0, 1), (10, .bipush 30, 2), (12, .invokestatic 58, 3), (15, .iconst 0, 1), (16, .istore_n 1, 1), (17, .iload_n 1, 1), (18, .aload_n 0, 1), (19, .getfield 32, 3), (22, .getfield 74, 3), (25, .if_icmp .ge 43, 3), (28, .aload_n 0, 1), (29, .iload_n 1, 1), (30, .invokevirtual 79, 3), (33, .ifCond .ne 29, 3), (36, .aload_n 0, 1), (37, .getfield 46, 3), (40, .ifCond .le 22, 3), (43, .aload_n 0, 1), (44, .dup, 1), (45, .getfield 46, 3), (48, .iconst 1, 1), (49, .isub, 1), (50, .putfield 46, 3), (53, .aload_n 0, 1), (54, .iload_n 1, 1), (55, .aload_n 0, 1), (56, .getfield 46, 3), (59, .invokevirtual 82, 3), (62, .iinc 1 1, 3), (65, .goto (-48), 3), (68, .aload_n 0, 1), (69, .invokevirtual 86, 3), (72, .iconst 0, 1), (73, .istore_n 1, 1), (74, .iload_n 1, 1)]
theorem tb_X8_passDay_0_ok : dck cX8_passDay tb_X8_passDay_0 = true := by decide +kernel
def tb_X8_passDay_1 : Tb := [(75, .bipush 30, 2), (77, .if_icmp .ge 33, 3), (80, .aload_n 0, 1), (81, .getfield 9, 3), (84, .iload_n 1, 1), (85, .iconst 0, 1), (86, .aload_n 0, 1), (87, .getfield 9, 3), (90, .iload_n 1, 1), (91, .iaload, 1), (92, .aload_n 0, 1), (93, .getfield 32, 3), (96, .getfield 89, 3), (99, .isub, 1), (100, .invokestatic 92, 3), (103, .iastore, 1), (104, .iinc 1 1, 3), (107, .goto (-33), 3), (110, .aload_n 0, 1), (111, .invokevirtual 95, 3), (114, .aload_n 0, 1), (115, .dup, 1), (116, .getfield 52, 3), (119, .iconst 1, 1), (120, .iadd, 1), (121, .putfield 52, 3), (124, .return_, 1)]
theorem tb_X8_passDay_1_ok : dck cX8_passDay tb_X8_passDay_1 = true := by decide +kernel
def tb_X11_days_0 : Tb := [(0, .iload_n 1, 1), (1, .iconst 1, 1), (2, .if_icmp .lt 27, 3), (5, .iload_n 1, 1), (6, .bipush 20, 2), (8, .if_icmp .gt 21, 3), (11, .iload_n 1, 1), (12, .sipush 999, 3), (15, .aload_n 0, 1), (16, .getfield 37, 3), (19, .getfield 53, 3), (22, .getfield 137, 3), (25, .isub, 1), (26, .if_icmp .le 8, 3), (29, .aload_n 0, 1), (30, .invokevirtual 215, 3), (33, .ireturn, 1), (34, .aload_n 0, 1), (35, .getfield 37, 3), (38, .invokevirtual 218, 3), (41, .iconst 0, 1), (42, .istore_n 2, 1), (43, .iload_n 2, 1), (44, .iload_n 1, 1), (45, .if_icmp .ge 19, 3), (48, .aload_n 0, 1), (49, .getfield 37, 3), (52, .getfield 53, 3), (55, .invokevirtual 221, 3), (58, .iinc 2 1, 3), (61, .goto (-18), 3), (64, .aload_n 0, 1), (65, .getfield 37, 3), (68, .getfield 53, 3), (71, .getfield 137, 3), (74, .ireturn, 1)]
theorem tb_X11_days_0_ok : dck cX11_days tb_X11_days_0 = true := by decide +kernel
def tb_X8_addKnobs_0 : Tb := [(0, .aload_n 0, 1), (1, .bipush 99, 2), (3, .aload_n 0, 1), (4, .getfield 46, 3), (7, .iload_n 1, 1), (8, .iadd, 1), (9, .invokestatic 64, 3), (12, .putfield 46, 3), (15, .return_, 1)]
theorem tb_X8_addKnobs_0_ok : dck cX8_addKnobs tb_X8_addKnobs_0 = true := by decide +kernel
def tb_X11_bag_0 : Tb := [(0, .iload_n 1, 1), (1, .iconst 1, 1), (2, .if_icmp .lt 9, 3), (5, .iload_n 1, 1), (6, .bipush 50, 2), (8, .if_icmp .le 8, 3), (11, .aload_n 0, 1), (12, .invokevirtual 215, 3), (15, .ireturn, 1), (16, .aload_n 0, 1), (17, .getfield 37, 3), (20, .invokevirtual 218, 3), (23, .aload_n 0, 1), (24, .getfield 37, 3), (27, .getfield 53, 3), (30, .iload_n 1, 1), (31, .invokevirtual 235, 3), (34, .aload_n 0, 1), (35, .getfield 37, 3), (38, .getfield 53, 3), (41, .getfield 140, 3), (44, .ireturn, 1)]
theorem tb_X11_bag_0_ok : dck cX11_bag tb_X11_bag_0 = true := by decide +kernel
def tb_X8_load_0 : Tb := [(0, .iload_n 2, 1), (1, .ifCond .lt 12, 3), (4, .iload_n 2, 1), (5, .aload_n 1, 1), (6, .arraylength, 1), (7, .bipush 41, 2), (9, .isub, 1), (10, .if_icmp .le 4, 3), (13, .return_, 1), (14, .aload_n 1, 1), (15, .iload_n 2, 1), (16, .aload_n 0, 1), (17, .getfield 9, 3), (20, .iconst 0, 1), (21, .bipush 30, 2), (23, .invokestatic 58, 3), (26, .aload_n 1, 1), (27, .iload_n 2, 1), (28, .bipush 30, 2), (30, .iadd, 1), (31, .aload_n 0, 1), (32, .getfield 21, 3), (35, .iconst 0, 1), (36, .bipush 6, 2), (38, .invokestatic 58, 3), (41, .iload_n 2, 1), (42, .bipush 30, 2), (44, .iadd, 1), (45, .bipush 6, 2), (47, .iadd, 1), (48, .istore_n 3, 1), (49, .aload_n 0, 1), (50, .aload_n 1, 1), (51, .iload_n 3, 1), (52, .iaload, 1), (53, .putfield 39, 3), (56, .aload_n 0, 1), (57, .aload_n 1, 1), (58, .iload_n 3, 1), (59, .iconst 1, 1)]
theorem tb_X8_load_0_ok : dck cX8_load tb_X8_load_0 = true := by decide +kernel
def tb_X8_load_1 : Tb := [(60, .iadd, 1), (61, .iaload, 1), (62, .putfield 43, 3), (65, .aload_n 0, 1), (66, .aload_n 1, 1), (67, .iload_n 3, 1), (68, .iconst 2, 1), (69, .iadd, 1), (70, .iaload, 1), (71, .putfield 46, 3), (74, .aload_n 0, 1), (75, .aload_n 1, 1), (76, .iload_n 3, 1), (77, .iconst 3, 1), (78, .iadd, 1), (79, .iaload, 1), (80, .putfield 49, 3), (83, .aload_n 0, 1), (84, .aload_n 1, 1), (85, .iload_n 3, 1), (86, .iconst 4, 1), (87, .iadd, 1), (88, .iaload, 1), (89, .putfield 52, 3), (92, .return_, 1)]
theorem tb_X8_load_1_ok : dck cX8_load tb_X8_load_1 = true := by decide +kernel
def tb_X0_takeBack_0 : Tb := [(0, .aload_n 0, 1), (1, .getfield 17, 3), (4, .ifCond .gt 5, 3), (7, .iconst 0, 1), (8, .ireturn, 1), (9, .aload_n 0, 1), (10, .dup, 1), (11, .getfield 17, 3), (14, .iconst 1, 1), (15, .isub, 1), (16, .putfield 17, 3), (19, .aload_n 1, 1), (20, .aload_n 0, 1), (21, .getfield 11, 3), (24, .aload_n 0, 1), (25, .getfield 17, 3), (28, .bipush 41, 2), (30, .imul, 1), (31, .invokevirtual 31, 3), (34, .iconst 1, 1), (35, .ireturn, 1)]
theorem tb_X0_takeBack_0_ok : dck cX0_takeBack tb_X0_takeBack_0 = true := by decide +kernel
def tb_X11_undo_0 : Tb := [(0, .aload_n 0, 1), (1, .getfield 37, 3), (4, .getfield 161, 3), (7, .aload_n 0, 1), (8, .getfield 37, 3), (11, .getfield 53, 3), (14, .invokevirtual 244, 3), (17, .ifCond .ne 5, 3), (20, .iconst (-1), 1), (21, .ireturn, 1), (22, .aload_n 0, 1), (23, .getfield 37, 3), (26, .getfield 161, 3), (29, .getfield 165, 3), (32, .ireturn, 1)]
theorem tb_X11_undo_0_ok : dck cX11_undo tb_X11_undo_0 = true := by decide +kernel
def tb_X8_copyFrom_0 : Tb := [(0, .aload_n 1, 1), (1, .getfield 9, 3), (4, .iconst 0, 1), (5, .aload_n 0, 1), (6, .getfield 9, 3), (9, .iconst 0, 1), (10, .bipush 30, 2), (12, .invokestatic 58, 3), (15, .aload_n 1, 1), (16, .getfield 21, 3), (19, .iconst 0, 1), (20, .aload_n 0, 1), (21, .getfield 21, 3), (24, .iconst 0, 1), (25, .bipush 6, 2), (27, .invokestatic 58, 3), (30, .aload_n 1, 1), (31, .getfield 24, 3), (34, .iconst 0, 1), (35, .aload_n 0, 1), (36, .getfield 24, 3), (39, .iconst 0, 1), (40, .bipush 6, 2), (42, .invokestatic 58, 3), (45, .aload_n 0, 1), (46, .aload_n 1, 1), (47, .getfield 39, 3), (50, .putfield 39, 3), (53, .aload_n 0, 1), (54, .aload_n 1, 1), (55, .getfield 43, 3), (58, .putfield 43, 3), (61, .aload_n 0, 1), (62, .aload_n 1, 1), (63, .getfield 46, 3), (66, .putfield 46, 3), (69, .aload_n 0, 1), (70, .aload_n 1, 1), (71, .getfield 49, 3), (74, .putfield 49, 3)]
theorem tb_X8_copyFrom_0_ok : dck cX8_copyFrom tb_X8_copyFrom_0 = true := by decide +kernel
def tb_X8_copyFrom_1 : Tb := [(77, .aload_n 0, 1), (78, .aload_n 1, 1), (79, .getfield 52, 3), (82, .putfield 52, 3), (85, .aload_n 0, 1), (86, .aload_n 1, 1), (87, .getfield 55, 3), (90, .putfield 55, 3), (93, .return_, 1)]
theorem tb_X8_copyFrom_1_ok : dck cX8_copyFrom tb_X8_copyFrom_1 = true := by decide +kernel
def tb_X11_lookAhead_0 : Tb := [(0, .aload_n 0, 1), (1, .getfield 47, 3), (4, .aload_n 0, 1), (5, .getfield 37, 3), (8, .getfield 53, 3), (11, .invokevirtual 343, 3), (14, .iconst 0, 1), (15, .istore_n 2, 1), (16, .iload_n 2, 1), (17, .iload_n 1, 1), (18, .if_icmp .ge 16, 3), (21, .aload_n 0, 1), (22, .getfield 47, 3), (25, .invokevirtual 221, 3), (28, .iinc 2 1, 3), (31, .goto (-15), 3), (34, .return_, 1)]
theorem tb_X11_lookAhead_0_ok : dck cX11_lookAhead tb_X11_lookAhead_0 = true := by decide +kernel
def tb_X11_spent_0 : Tb := [(0, .aload_n 0, 1), (1, .iconst 0, 1), (2, .invokevirtual 252, 3), (5, .iconst 0, 1), (6, .istore_n 1, 1), (7, .iload_n 1, 1), (8, .bipush 40, 2), (10, .if_icmp .gt 28, 3), (13, .aload_n 0, 1), (14, .getfield 47, 3), (17, .getfield 140, 3), (20, .ifCond .ne 5, 3), (23, .iload_n 1, 1), (24, .ireturn, 1), (25, .aload_n 0, 1), (26, .getfield 47, 3), (29, .invokevirtual 221, 3), (32, .iinc 1 1, 3), (35, .goto (-28), 3), (38, .iconst (-1), 1), (39, .ireturn, 1)]
theorem tb_X11_spent_0_ok : dck cX11_spent tb_X11_spent_0 = true := by decide +kernel
def tb_X8_isAsInTheMorning_0 : Tb := [(0, .iconst 0, 1), (1, .istore_n 1, 1), (2, .iload_n 1, 1), (3, .bipush 30, 2), (5, .if_icmp .ge 26, 3), (8, .aload_n 0, 1), (9, .getfield 9, 3), (12, .iload_n 1, 1), (13, .iaload, 1), (14, .aload_n 0, 1), (15, .getfield 15, 3), (18, .iload_n 1, 1), (19, .iaload, 1), (20, .if_icmp .eq 5, 3), (23, .iconst 0, 1), (24, .ireturn, 1), (25, .iinc 1 1, 3), (28, .goto (-26), 3), (31, .iconst 1, 1), (32, .ireturn, 1)]
theorem tb_X8_isAsInTheMorning_0_ok : dck cX8_isAsInTheMorning tb_X8_isAsInTheMorning_0 = true := by decide +kernel
def tb_X11_steady_0 : Tb := [(0, .aload_n 0, 1), (1, .iconst 0, 1), (2, .invokevirtual 252, 3), (5, .iconst 1, 1), (6, .istore_n 1, 1), (7, .iload_n 1, 1), (8, .bipush 40, 2), (10, .if_icmp .gt 28, 3), (13, .aload_n 0, 1), (14, .getfield 47, 3), (17, .invokevirtual 221, 3), (20, .aload_n 0, 1), (21, .getfield 47, 3), (24, .invokevirtual 276, 3), (27, .ifCond .eq 5, 3), (30, .iload_n 1, 1), (31, .ireturn, 1), (32, .iinc 1 1, 3), (35, .goto (-28), 3), (38, .iconst (-1), 1), (39, .ireturn, 1)]
theorem tb_X11_steady_0_ok : dck cX11_steady tb_X11_steady_0 = true := by decide +kernel
def tb_X8_deepest_0 : Tb := [(0, .iconst (-1), 1), (1, .istore_n 1, 1), (2, .iconst 0, 1), (3, .istore_n 2, 1), (4, .iload_n 2, 1), (5, .aload_n 0, 1), (6, .getfield 32, 3), (9, .invokevirtual 147, 3), (12, .if_icmp .ge 37, 3), (15, .aload_n 0, 1), (16, .iload_n 2, 1), (17, .invokevirtual 70, 3), (20, .ifCond .ne 23, 3), (23, .iload_n 1, 1), (24, .iconst (-1), 1), (25, .if_icmp .eq 16, 3), (28, .aload_n 0, 1), (29, .iload_n 2, 1), (30, .invokevirtual 118, 3), (33, .aload_n 0, 1), (34, .iload_n 1, 1), (35, .invokevirtual 118, 3), (38, .if_icmp .le 5, 3), (41, .iload_n 2, 1), (42, .istore_n 1, 1), (43, .iinc 2 1, 3), (46, .goto (-42), 3), (49, .iload_n 1, 1), (50, .ireturn, 1)]
theorem tb_X8_deepest_0_ok : dck cX8_deepest tb_X8_deepest_0 = true := by decide +kernel
def tb_X8_palest_0 : Tb := [(0, .iconst (-1), 1), (1, .istore_n 1, 1), (2, .iconst 0, 1), (3, .istore_n 2, 1), (4, .iload_n 2, 1), (5, .aload_n 0, 1), (6, .getfield 32, 3), (9, .invokevirtual 147, 3), (12, .if_icmp .ge 37, 3), (15, .aload_n 0, 1), (16, .iload_n 2, 1), (17, .invokevirtual 70, 3), (20, .ifCond .ne 23, 3), (23, .iload_n 1, 1), (24, .iconst (-1), 1), (25, .if_icmp .eq 16, 3), (28, .aload_n 0, 1), (29, .iload_n 2, 1), (30, .invokevirtual 118, 3), (33, .aload_n 0, 1), (34, .iload_n 1, 1), (35, .invokevirtual 118, 3), (38, .if_icmp .ge 5, 3), (41, .iload_n 2, 1), (42, .istore_n 1, 1), (43, .iinc 2 1, 3), (46, .goto (-42), 3), (49, .iload_n 1, 1), (50, .ireturn, 1)]
theorem tb_X8_palest_0_ok : dck cX8_palest tb_X8_palest_0 = true := by decide +kernel
def tb_X8_uneven_0 : Tb := [(0, .aload_n 0, 1), (1, .invokevirtual 163, 3), (4, .istore_n 1, 1), (5, .iload_n 1, 1), (6, .iconst (-1), 1), (7, .if_icmp .ne 7, 3), (10, .iconst (-1), 1), (11, .goto 17, 3), (14, .aload_n 0, 1), (15, .iload_n 1, 1), (16, .invokevirtual 118, 3), (19, .aload_n 0, 1), (20, .aload_n 0, 1), (21, .invokevirtual 166, 3), (24, .invokevirtual 118, 3), (27, .isub, 1), (28, .ireturn, 1)]
theorem tb_X8_uneven_0_ok : dck cX8_uneven tb_X8_uneven_0 = true := by decide +kernel
def tb_X8_setResting_0 : Tb := [(0, .aload_n 0, 1), (1, .iload_n 2, 1), (2, .ifCond .eq 14, 3), (5, .aload_n 0, 1), (6, .getfield 43, 3), (9, .iconst 1, 1), (10, .iload_n 1, 1), (11, .ishl, 1), (12, .ior, 1), (13, .goto 13, 3), (16, .aload_n 0, 1), (17, .getfield 43, 3), (20, .iconst 1, 1), (21, .iload_n 1, 1), (22, .ishl, 1), (23, .iconst (-1), 1), (24, .ixor, 1), (25, .iand, 1), (26, .putfield 43, 3), (29, .return_, 1)]
theorem tb_X8_setResting_0_ok : dck cX8_setResting tb_X8_setResting_0 = true := by decide +kernel
def tb_X11_lookAheadIfResting_0 : Tb := [(0, .aload_n 0, 1), (1, .getfield 47, 3), (4, .aload_n 0, 1), (5, .getfield 37, 3), (8, .getfield 53, 3), (11, .invokevirtual 343, 3), (14, .aload_n 0, 1), (15, .getfield 47, 3), (18, .iload_n 1, 1), (19, .iload_n 2, 1), (20, .invokevirtual 227, 3), (23, .aload_n 0, 1), (24, .getfield 47, 3), (27, .invokevirtual 221, 3), (30, .return_, 1)]
theorem tb_X11_lookAheadIfResting_0_ok : dck cX11_lookAheadIfResting tb_X11_lookAheadIfResting_0 = true := by decide +kernel
def tb_X11_toRest_0 : Tb := [(0, .aload_n 0, 1), (1, .iconst 1, 1), (2, .invokevirtual 252, 3), (5, .iconst (-1), 1), (6, .istore_n 1, 1), (7, .aload_n 0, 1), (8, .getfield 47, 3), (11, .invokevirtual 258, 3), (14, .istore_n 2, 1), (15, .iconst 0, 1), (16, .istore_n 3, 1), (17, .iload_n 3, 1), (18, .aload_n 0, 1), (19, .getfield 19, 3), (22, .getfield 134, 3), (25, .if_icmp .ge 49, 3), (28, .aload_n 0, 1), (29, .getfield 37, 3), (32, .getfield 53, 3), (35, .iload_n 3, 1), (36, .invokevirtual 224, 3), (39, .ifCond .ne 29, 3), (42, .aload_n 0, 1), (43, .iload_n 3, 1), (44, .iconst 1, 1), (45, .invokevirtual 290, 3), (48, .aload_n 0, 1), (49, .getfield 47, 3), (52, .invokevirtual 258, 3), (55, .istore 4, 2), (57, .iload 4, 2), (59, .iload_n 2, 1), (60, .if_icmp .ge 8, 3), (63, .iload 4, 2), (65, .istore_n 2, 1), (66, .iload_n 3, 1), (67, .istore_n 1, 1), (68, .iinc 3 1, 3), (71, .goto (-54), 3), (74, .iload_n 1, 1)]
theorem tb_X11_toRest_0_ok : dck cX11_toRest tb_X11_toRest_0 = true := by decide +kernel
def tb_X11_toRest_1 : Tb := [(75, .ireturn, 1)]
theorem tb_X11_toRest_1_ok : dck cX11_toRest tb_X11_toRest_1 = true := by decide +kernel
def tb_X11_forget_0 : Tb := [(0, .aload_n 0, 1), (1, .getfield 37, 3), (4, .iconst 0, 1), (5, .putfield 170, 3), (8, .return_, 1)]
theorem tb_X11_forget_0_ok : dck cX11_forget tb_X11_forget_0 = true := by decide +kernel
def tb_X0_copyFrom_0 : Tb := [(0, .aload_n 1, 1), (1, .getfield 11, 3), (4, .iconst 0, 1), (5, .aload_n 0, 1), (6, .getfield 11, 3), (9, .iconst 0, 1), (10, .sipush 1640, 3), (13, .invokestatic 21, 3), (16, .aload_n 0, 1), (17, .aload_n 1, 1), (18, .getfield 17, 3), (21, .putfield 17, 3), (24, .return_, 1)]
theorem tb_X0_copyFrom_0_ok : dck cX0_copyFrom tb_X0_copyFrom_0 = true := by decide +kernel
def tb_X4_copyFrom_0 : Tb := [(0, .aload_n 0, 1), (1, .getfield 36, 3), (4, .aload_n 1, 1), (5, .getfield 36, 3), (8, .invokevirtual 40, 3), (11, .aload_n 0, 1), (12, .getfield 12, 3), (15, .aload_n 1, 1), (16, .getfield 12, 3), (19, .invokevirtual 51, 3), (22, .aload_n 1, 1), (23, .getfield 18, 3), (26, .iconst 0, 1), (27, .aload_n 0, 1), (28, .getfield 18, 3), (31, .iconst 0, 1), (32, .bipush 8, 2), (34, .invokestatic 54, 3), (37, .aload_n 1, 1), (38, .getfield 22, 3), (41, .iconst 0, 1), (42, .aload_n 0, 1), (43, .getfield 22, 3), (46, .iconst 0, 1), (47, .bipush 8, 2), (49, .invokestatic 54, 3), (52, .aload_n 1, 1), (53, .getfield 25, 3), (56, .iconst 0, 1), (57, .aload_n 0, 1), (58, .getfield 25, 3), (61, .iconst 0, 1), (62, .bipush 8, 2), (64, .invokestatic 54, 3), (67, .aload_n 1, 1), (68, .getfield 28, 3), (71, .iconst 0, 1), (72, .aload_n 0, 1), (73, .getfield 28, 3), (76, .iconst 0, 1)]
theorem tb_X4_copyFrom_0_ok : dck cX4_copyFrom tb_X4_copyFrom_0 = true := by decide +kernel
def tb_X4_copyFrom_1 : Tb := [(77, .iconst 3, 1), (78, .invokestatic 54, 3), (81, .aload_n 0, 1), (82, .aload_n 1, 1), (83, .getfield 47, 3), (86, .putfield 47, 3), (89, .return_, 1)]
theorem tb_X4_copyFrom_1_ok : dck cX4_copyFrom tb_X4_copyFrom_1 = true := by decide +kernel
def tb_X11_image_0 : Tb := [(0, .aload_n 0, 1), (1, .getfield 41, 3), (4, .aload_n 0, 1), (5, .getfield 37, 3), (8, .invokevirtual 340, 3), (11, .aload_n 0, 1), (12, .iconst 1, 1), (13, .putfield 124, 3), (16, .return_, 1)]
theorem tb_X11_image_0_ok : dck cX11_image tb_X11_image_0 = true := by decide +kernel
def tb_X11_restore_0 : Tb := [(0, .aload_n 0, 1), (1, .getfield 124, 3), (4, .ifCond .ne 5, 3), (7, .iconst 0, 1), (8, .ireturn, 1), (9, .aload_n 0, 1), (10, .getfield 37, 3), (13, .aload_n 0, 1), (14, .getfield 41, 3), (17, .invokevirtual 340, 3), (20, .iconst 1, 1), (21, .ireturn, 1)]
theorem tb_X11_restore_0_ok : dck cX11_restore tb_X11_restore_0 = true := by decide +kernel
def tb_X9_byteAt_0 : Tb := [(0, .iload_n 1, 1), (1, .ifCond .lt 33, 3), (4, .iload_n 1, 1), (5, .aload_n 0, 1), (6, .getfield 15, 3), (9, .if_icmp .ge 25, 3), (12, .iload_n 1, 1), (13, .aload_n 0, 1), (14, .getfield 9, 3), (17, .arraylength, 1), (18, .if_icmp .ge 16, 3), (21, .aload_n 0, 1), (22, .getfield 9, 3), (25, .iload_n 1, 1), (26, .baload, 1), (27, .sipush 255, 3), (30, .iand, 1), (31, .goto 4, 3), (34, .iconst (-1), 1), (35, .ireturn, 1)]
theorem tb_X9_byteAt_0_ok : dck cX9_byteAt tb_X9_byteAt_0 = true := by decide +kernel
def tb_X10_isBlank_0 : Tb := [(0, .iload_n 0, 1), (1, .bipush 32, 2), (3, .if_icmp .eq 9, 3), (6, .iload_n 0, 1), (7, .bipush 10, 2), (9, .if_icmp .ne 7, 3), (12, .iconst 1, 1), (13, .goto 4, 3), (16, .iconst 0, 1), (17, .ireturn, 1)]
theorem tb_X10_isBlank_0_ok : dck cX10_isBlank tb_X10_isBlank_0 = true := by decide +kernel
def tb_X10_isLetter_0 : Tb := [(0, .iload_n 0, 1), (1, .bipush 97, 2), (3, .if_icmp .lt 13, 3), (6, .iload_n 0, 1), (7, .bipush 122, 2), (9, .if_icmp .gt 7, 3), (12, .iconst 1, 1), (13, .goto 4, 3), (16, .iconst 0, 1), (17, .ireturn, 1)]
theorem tb_X10_isLetter_0_ok : dck cX10_isLetter tb_X10_isLetter_0 = true := by decide +kernel
def tb_X10_isDigit_0 : Tb := [(0, .iload_n 0, 1), (1, .bipush 48, 2), (3, .if_icmp .lt 13, 3), (6, .iload_n 0, 1), (7, .bipush 57, 2), (9, .if_icmp .gt 7, 3), (12, .iconst 1, 1), (13, .goto 4, 3), (16, .iconst 0, 1), (17, .ireturn, 1)]
theorem tb_X10_isDigit_0_ok : dck cX10_isDigit tb_X10_isDigit_0 = true := by decide +kernel
def tb_X10_advance_0 : Tb := [(0, .aload_n 0, 1), (1, .aload_n 0, 1), (2, .getfield 19, 3), (5, .putfield 31, 3), (8, .aload_n 0, 1), (9, .getfield 31, 3), (12, .aload_n 0, 1), (13, .getfield 15, 3), (16, .if_icmp .ge 33, 3), (19, .aload_n 0, 1), (20, .getfield 9, 3), (23, .aload_n 0, 1), (24, .getfield 31, 3), (27, .invokevirtual 34, 3), (30, .invokestatic 40, 3), (33, .ifCond .eq 16, 3), (36, .aload_n 0, 1), (37, .dup, 1), (38, .getfield 31, 3), (41, .iconst 1, 1), (42, .iadd, 1), (43, .putfield 31, 3), (46, .goto (-38), 3), (49, .aload_n 0, 1), (50, .aload_n 0, 1), (51, .getfield 31, 3), (54, .putfield 19, 3), (57, .aload_n 0, 1), (58, .iconst 0, 1), (59, .putfield 44, 3), (62, .aload_n 0, 1), (63, .getfield 31, 3), (66, .aload_n 0, 1), (67, .getfield 15, 3), (70, .if_icmp .lt 11, 3), (73, .aload_n 0, 1), (74, .iconst (-1), 1), (75, .putfield 47, 3), (78, .goto 195, 3), (81, .aload_n 0, 1)]
theorem tb_X10_advance_0_ok : dck cX10_advance tb_X10_advance_0 = true := by decide +kernel
def tb_X10_advance_1 : Tb := [(82, .getfield 9, 3), (85, .aload_n 0, 1), (86, .getfield 31, 3), (89, .invokevirtual 34, 3), (92, .invokestatic 50, 3), (95, .ifCond .eq 50, 3), (98, .aload_n 0, 1), (99, .bipush (-2), 2), (101, .putfield 47, 3), (104, .aload_n 0, 1), (105, .getfield 19, 3), (108, .aload_n 0, 1), (109, .getfield 15, 3), (112, .if_icmp .ge 161, 3), (115, .aload_n 0, 1), (116, .getfield 9, 3), (119, .aload_n 0, 1), (120, .getfield 19, 3), (123, .invokevirtual 34, 3), (126, .invokestatic 50, 3), (129, .ifCond .eq 144, 3), (132, .aload_n 0, 1), (133, .dup, 1), (134, .getfield 19, 3), (137, .iconst 1, 1), (138, .iadd, 1), (139, .putfield 19, 3), (142, .goto (-38), 3), (145, .aload_n 0, 1), (146, .getfield 9, 3), (149, .aload_n 0, 1), (150, .getfield 31, 3), (153, .invokevirtual 34, 3), (156, .invokestatic 53, 3), (159, .ifCond .eq 89, 3), (162, .aload_n 0, 1), (163, .bipush (-3), 2), (165, .putfield 47, 3), (168, .aload_n 0, 1), (169, .getfield 19, 3)]
theorem tb_X10_advance_1_ok : dck cX10_advance tb_X10_advance_1 = true := by decide +kernel
def tb_X10_advance_2 : Tb := [(172, .aload_n 0, 1), (173, .getfield 15, 3), (176, .if_icmp .ge 97, 3), (179, .aload_n 0, 1), (180, .getfield 9, 3), (183, .aload_n 0, 1), (184, .getfield 19, 3), (187, .invokevirtual 34, 3), (190, .invokestatic 53, 3), (193, .ifCond .eq 80, 3), (196, .aload_n 0, 1), (197, .getfield 19, 3), (200, .aload_n 0, 1), (201, .getfield 31, 3), (204, .isub, 1), (205, .iconst 4, 1), (206, .if_icmp .ge 29, 3), (209, .aload_n 0, 1), (210, .bipush 10, 2), (212, .aload_n 0, 1), (213, .getfield 44, 3), (216, .imul, 1), (217, .aload_n 0, 1), (218, .getfield 9, 3), (221, .aload_n 0, 1), (222, .getfield 19, 3), (225, .invokevirtual 34, 3), (228, .iadd, 1), (229, .bipush 48, 2), (231, .isub, 1), (232, .putfield 44, 3), (235, .aload_n 0, 1), (236, .dup, 1), (237, .getfield 19, 3), (240, .iconst 1, 1), (241, .iadd, 1), (242, .putfield 19, 3), (245, .goto (-77), 3), (248, .aload_n 0, 1), (249, .aload_n 0, 1)]
theorem tb_X10_advance_2_ok : dck cX10_advance tb_X10_advance_2 = true := by decide +kernel
def tb_X10_advance_3 : Tb := [(250, .getfield 9, 3), (253, .aload_n 0, 1), (254, .getfield 31, 3), (257, .invokevirtual 34, 3), (260, .putfield 47, 3), (263, .aload_n 0, 1), (264, .dup, 1), (265, .getfield 19, 3), (268, .iconst 1, 1), (269, .iadd, 1), (270, .putfield 19, 3), (273, .return_, 1)]
theorem tb_X10_advance_3_ok : dck cX10_advance tb_X10_advance_3 = true := by decide +kernel
def tb_X10_begin_0 : Tb := [(0, .aload_n 0, 1), (1, .iload_n 1, 1), (2, .putfield 15, 3), (5, .aload_n 0, 1), (6, .iconst 0, 1), (7, .putfield 19, 3), (10, .aload_n 0, 1), (11, .iconst 0, 1), (12, .putfield 22, 3), (15, .aload_n 0, 1), (16, .iconst (-1), 1), (17, .putfield 25, 3), (20, .aload_n 0, 1), (21, .invokevirtual 28, 3), (24, .return_, 1)]
theorem tb_X10_begin_0_ok : dck cX10_begin tb_X10_begin_0 = true := by decide +kernel
def tb_X10_isWord_0 : Tb := [(0, .aload_n 0, 1), (1, .getfield 47, 3), (4, .bipush (-2), 2), (6, .if_icmp .ne 19, 3), (9, .aload_n 0, 1), (10, .getfield 19, 3), (13, .aload_n 0, 1), (14, .getfield 31, 3), (17, .isub, 1), (18, .aload_n 1, 1), (19, .invokevirtual 56, 3), (22, .if_icmp .eq 5, 3), (25, .iconst 0, 1), (26, .ireturn, 1), (27, .iconst 0, 1), (28, .istore_n 2, 1), (29, .iload_n 2, 1), (30, .aload_n 1, 1), (31, .invokevirtual 56, 3), (34, .if_icmp .ge 32, 3), (37, .aload_n 0, 1), (38, .getfield 9, 3), (41, .aload_n 0, 1), (42, .getfield 31, 3), (45, .iload_n 2, 1), (46, .iadd, 1), (47, .invokevirtual 34, 3), (50, .aload_n 1, 1), (51, .iload_n 2, 1), (52, .invokevirtual 62, 3), (55, .if_icmp .eq 5, 3), (58, .iconst 0, 1), (59, .ireturn, 1), (60, .iinc 2 1, 3), (63, .goto (-34), 3), (66, .iconst 1, 1), (67, .ireturn, 1)]
theorem tb_X10_isWord_0_ok : dck cX10_isWord tb_X10_isWord_0 = true := by decide +kernel
def tb_X10_refuse_0 : Tb := [(0, .aload_n 0, 1), (1, .getfield 22, 3), (4, .ifCond .ne 16, 3), (7, .aload_n 0, 1), (8, .iload_n 1, 1), (9, .putfield 22, 3), (12, .aload_n 0, 1), (13, .aload_n 0, 1), (14, .getfield 31, 3), (17, .putfield 25, 3), (20, .iconst 0, 1), (21, .ireturn, 1)]
theorem tb_X10_refuse_0_ok : dck cX10_refuse tb_X10_refuse_0 = true := by decide +kernel
def tb_X2_passesOnce_0 : Tb := [(0, .aload_n 0, 1), (1, .getfield 53, 3), (4, .iload_n 1, 1), (5, .iand, 1), (6, .ifCond .eq 12, 3), (9, .aload_n 0, 1), (10, .getfield 32, 3), (13, .iconst 5, 1), (14, .invokevirtual 131, 3), (17, .ireturn, 1), (18, .aload_n 0, 1), (19, .dup, 1), (20, .getfield 53, 3), (23, .iload_n 1, 1), (24, .ior, 1), (25, .putfield 53, 3), (28, .aload_n 0, 1), (29, .getfield 32, 3), (32, .invokevirtual 149, 3), (35, .iconst 1, 1), (36, .ireturn, 1)]
theorem tb_X2_passesOnce_0_ok : dck cX2_passesOnce tb_X2_passesOnce_0 = true := by decide +kernel
def tb_X2_refuseNumber_0 : Tb := [(0, .aload_n 0, 1), (1, .getfield 32, 3), (4, .iload_n 1, 1), (5, .invokevirtual 131, 3), (8, .pop, 1), (9, .iconst (-1), 1), (10, .ireturn, 1)]
theorem tb_X2_refuseNumber_0_ok : dck cX2_refuseNumber tb_X2_refuseNumber_0 = true := by decide +kernel
def tb_X10_isTooLong_0 : Tb := [(0, .aload_n 0, 1), (1, .getfield 47, 3), (4, .bipush (-3), 2), (6, .if_icmp .ne 20, 3), (9, .aload_n 0, 1), (10, .getfield 19, 3), (13, .aload_n 0, 1), (14, .getfield 31, 3), (17, .isub, 1), (18, .iconst 4, 1), (19, .if_icmp .le 7, 3), (22, .iconst 1, 1), (23, .goto 4, 3), (26, .iconst 0, 1), (27, .ireturn, 1)]
theorem tb_X10_isTooLong_0_ok : dck cX10_isTooLong tb_X10_isTooLong_0 = true := by decide +kernel
def tb_X2_readNumber_0 : Tb := [(0, .aload_n 0, 1), (1, .getfield 32, 3), (4, .getfield 67, 3), (7, .bipush (-3), 2), (9, .if_icmp .eq 9, 3), (12, .aload_n 0, 1), (13, .iconst 1, 1), (14, .invokevirtual 190, 3), (17, .ireturn, 1), (18, .aload_n 0, 1), (19, .getfield 32, 3), (22, .getfield 193, 3), (25, .istore_n 3, 1), (26, .aload_n 0, 1), (27, .getfield 32, 3), (30, .invokevirtual 196, 3), (33, .ifCond .ne 13, 3), (36, .iload_n 3, 1), (37, .iload_n 1, 1), (38, .if_icmp .lt 8, 3), (41, .iload_n 3, 1), (42, .iload_n 2, 1), (43, .if_icmp .le 9, 3), (46, .aload_n 0, 1), (47, .iconst 2, 1), (48, .invokevirtual 190, 3), (51, .ireturn, 1), (52, .aload_n 0, 1), (53, .getfield 32, 3), (56, .invokevirtual 149, 3), (59, .iload_n 3, 1), (60, .ireturn, 1)]
theorem tb_X2_readNumber_0_ok : dck cX2_readNumber tb_X2_readNumber_0 = true := by decide +kernel
def tb_X10_passes_0 : Tb := [(0, .aload_n 0, 1), (1, .getfield 47, 3), (4, .iload_n 1, 1), (5, .if_icmp .eq 9, 3), (8, .aload_n 0, 1), (9, .iconst 1, 1), (10, .invokevirtual 66, 3), (13, .ireturn, 1), (14, .aload_n 0, 1), (15, .invokevirtual 28, 3), (18, .iconst 1, 1), (19, .ireturn, 1)]
theorem tb_X10_passes_0_ok : dck cX10_passes tb_X10_passes_0 = true := by decide +kernel
def tb_X2_readSky_0 : Tb := [(0, .aload_n 0, 1), (1, .getfield 60, 3), (4, .ifCond .eq 12, 3), (7, .aload_n 0, 1), (8, .getfield 32, 3), (11, .iconst 4, 1), (12, .invokevirtual 131, 3), (15, .ireturn, 1), (16, .aload_n 0, 1), (17, .iconst 1, 1), (18, .invokevirtual 135, 3), (21, .ifCond .ne 5, 3), (24, .iconst 0, 1), (25, .ireturn, 1), (26, .aload_n 0, 1), (27, .iconst 1, 1), (28, .bipush 6, 2), (30, .invokevirtual 138, 3), (33, .istore_n 1, 1), (34, .iload_n 1, 1), (35, .iconst (-1), 1), (36, .if_icmp .ne 5, 3), (39, .iconst 0, 1), (40, .ireturn, 1), (41, .aload_n 0, 1), (42, .iconst 1, 1), (43, .iconst 5, 1), (44, .invokevirtual 138, 3), (47, .istore_n 2, 1), (48, .iload_n 2, 1), (49, .iconst (-1), 1), (50, .if_icmp .ne 5, 3), (53, .iconst 0, 1), (54, .ireturn, 1), (55, .aload_n 0, 1), (56, .getfield 12, 3), (59, .iload_n 1, 1), (60, .iload_n 2, 1), (61, .invokevirtual 142, 3), (64, .aload_n 0, 1)]
theorem tb_X2_readSky_0_ok : dck cX2_readSky tb_X2_readSky_0 = true := by decide +kernel
def tb_X2_readSky_1 : Tb := [(65, .getfield 32, 3), (68, .bipush 59, 2), (70, .invokevirtual 146, 3), (73, .ireturn, 1)]
theorem tb_X2_readSky_1_ok : dck cX2_readSky tb_X2_readSky_1 = true := by decide +kernel
def tb_X2_readCell_0 : Tb := [(0, .aload_n 0, 1), (1, .getfield 32, 3), (4, .getfield 67, 3), (7, .bipush (-3), 2), (9, .if_icmp .eq 9, 3), (12, .aload_n 0, 1), (13, .iconst 1, 1), (14, .invokevirtual 190, 3), (17, .ireturn, 1), (18, .aload_n 0, 1), (19, .getfield 32, 3), (22, .getfield 193, 3), (25, .istore_n 2, 1), (26, .aload_n 0, 1), (27, .getfield 32, 3), (30, .invokevirtual 196, 3), (33, .ifCond .eq 9, 3), (36, .aload_n 0, 1), (37, .iconst 2, 1), (38, .invokevirtual 190, 3), (41, .ireturn, 1), (42, .iload_n 2, 1), (43, .aload_n 0, 1), (44, .getfield 12, 3), (47, .invokevirtual 199, 3), (50, .if_icmp .lt 9, 3), (53, .aload_n 0, 1), (54, .iconst 3, 1), (55, .invokevirtual 190, 3), (58, .ireturn, 1), (59, .iload_n 1, 1), (60, .iload_n 2, 1), (61, .ishr, 1), (62, .iconst 1, 1), (63, .iand, 1), (64, .ifCond .eq 9, 3), (67, .aload_n 0, 1), (68, .iconst 4, 1), (69, .invokevirtual 190, 3), (72, .ireturn, 1)]
theorem tb_X2_readCell_0_ok : dck cX2_readCell tb_X2_readCell_0 = true := by decide +kernel
def tb_X2_readCell_1 : Tb := [(73, .aload_n 0, 1), (74, .iconst 1, 1), (75, .putfield 60, 3), (78, .aload_n 0, 1), (79, .getfield 32, 3), (82, .invokevirtual 149, 3), (85, .iload_n 2, 1), (86, .ireturn, 1)]
theorem tb_X2_readCell_1_ok : dck cX2_readCell tb_X2_readCell_1 = true := by decide +kernel
def tb_X2_readBlue_0 : Tb := [(0, .aload_n 0, 1), (1, .getfield 32, 3), (4, .invokevirtual 149, 3), (7, .aload_n 0, 1), (8, .aload_n 0, 1), (9, .getfield 57, 3), (12, .invokevirtual 152, 3), (15, .istore_n 1, 1), (16, .iload_n 1, 1), (17, .iconst (-1), 1), (18, .if_icmp .ne 5, 3), (21, .iconst 0, 1), (22, .ireturn, 1), (23, .aload_n 0, 1), (24, .dup, 1), (25, .getfield 57, 3), (28, .iconst 1, 1), (29, .iload_n 1, 1), (30, .ishl, 1), (31, .ior, 1), (32, .putfield 57, 3), (35, .aload_n 0, 1), (36, .iconst 0, 1), (37, .bipush 99, 2), (39, .invokevirtual 138, 3), (42, .istore_n 2, 1), (43, .iload_n 2, 1), (44, .iconst (-1), 1), (45, .if_icmp .ne 5, 3), (48, .iconst 0, 1), (49, .ireturn, 1), (50, .aload_n 0, 1), (51, .getfield 23, 3), (54, .iload_n 1, 1), (55, .iload_n 2, 1), (56, .invokevirtual 156, 3), (59, .aload_n 0, 1), (60, .getfield 32, 3), (63, .bipush 59, 2), (65, .invokevirtual 146, 3)]
theorem tb_X2_readBlue_0_ok : dck cX2_readBlue tb_X2_readBlue_0 = true := by decide +kernel
def tb_X2_readBlue_1 : Tb := [(68, .ireturn, 1)]
theorem tb_X2_readBlue_1_ok : dck cX2_readBlue tb_X2_readBlue_1 = true := by decide +kernel
def tb_X8_setSkill_0 : Tb := [(0, .iload_n 1, 1), (1, .ifCond .lt 16, 3), (4, .iload_n 1, 1), (5, .bipush 6, 2), (7, .if_icmp .ge 10, 3), (10, .aload_n 0, 1), (11, .getfield 24, 3), (14, .iload_n 1, 1), (15, .iload_n 2, 1), (16, .iastore, 1), (17, .return_, 1)]
theorem tb_X8_setSkill_0_ok : dck cX8_setSkill tb_X8_setSkill_0 = true := by decide +kernel
def tb_X8_setSpot_0 : Tb := [(0, .iload_n 1, 1), (1, .ifCond .lt 16, 3), (4, .iload_n 1, 1), (5, .bipush 6, 2), (7, .if_icmp .ge 10, 3), (10, .aload_n 0, 1), (11, .getfield 21, 3), (14, .iload_n 1, 1), (15, .iload_n 2, 1), (16, .iastore, 1), (17, .return_, 1)]
theorem tb_X8_setSpot_0_ok : dck cX8_setSpot tb_X8_setSpot_0 = true := by decide +kernel
def tb_X2_readGirl_0 : Tb := [(0, .aload_n 0, 1), (1, .getfield 12, 3), (4, .getfield 159, 3), (7, .bipush 6, 2), (9, .if_icmp .lt 12, 3), (12, .aload_n 0, 1), (13, .getfield 32, 3), (16, .iconst 2, 1), (17, .invokevirtual 131, 3), (20, .ireturn, 1), (21, .aload_n 0, 1), (22, .getfield 32, 3), (25, .invokevirtual 149, 3), (28, .aload_n 0, 1), (29, .iconst 0, 1), (30, .bipush 9, 2), (32, .invokevirtual 138, 3), (35, .istore_n 2, 1), (36, .iload_n 2, 1), (37, .iconst (-1), 1), (38, .if_icmp .ne 5, 3), (41, .iconst 0, 1), (42, .ireturn, 1), (43, .aload_n 0, 1), (44, .iconst 0, 1), (45, .invokevirtual 152, 3), (48, .istore_n 3, 1), (49, .iload_n 3, 1), (50, .iconst (-1), 1), (51, .if_icmp .ne 5, 3), (54, .iconst 0, 1), (55, .ireturn, 1), (56, .aload_n 0, 1), (57, .getfield 12, 3), (60, .getfield 159, 3), (63, .istore 4, 2), (65, .aload_n 0, 1), (66, .getfield 12, 3), (69, .dup, 1), (70, .getfield 159, 3)]
theorem tb_X2_readGirl_0_ok : dck cX2_readGirl tb_X2_readGirl_0 = true := by decide +kernel
def tb_X2_readGirl_1 : Tb := [(73, .iconst 1, 1), (74, .iadd, 1), (75, .putfield 159, 3), (78, .iload_n 1, 1), (79, .ifCond .eq 19, 3), (82, .aload_n 0, 1), (83, .getfield 12, 3), (86, .dup, 1), (87, .getfield 162, 3), (90, .iconst 1, 1), (91, .iload 4, 2), (93, .ishl, 1), (94, .ior, 1), (95, .putfield 162, 3), (98, .aload_n 0, 1), (99, .getfield 23, 3), (102, .iload 4, 2), (104, .iload_n 2, 1), (105, .invokevirtual 165, 3), (108, .aload_n 0, 1), (109, .getfield 23, 3), (112, .iload 4, 2), (114, .iload_n 3, 1), (115, .invokevirtual 168, 3), (118, .aload_n 0, 1), (119, .getfield 32, 3), (122, .bipush 59, 2), (124, .invokevirtual 146, 3), (127, .ireturn, 1)]
theorem tb_X2_readGirl_1_ok : dck cX2_readGirl tb_X2_readGirl_1 = true := by decide +kernel
end
section
def tb_X8_setPeg_0 : Tb := [(0, .aload_n 0, 1), (1, .iload_n 2, 1), (2, .ifCond .eq 14, 3), (5, .aload_n 0, 1), (6, .getfield 39, 3), (9, .iconst 1, 1), (10, .iload_n 1, 1), (11, .ishl, 1), (12, .ior, 1), (13, .goto 13, 3), (16, .aload_n 0, 1), (17, .getfield 39, 3), (20, .iconst 1, 1), (21, .iload_n 1, 1), (22, .ishl, 1), (23, .iconst (-1), 1), (24, .ixor, 1), (25, .iand, 1), (26, .putfield 39, 3), (29, .iload_n 2, 1), (30, .ifCond .eq 20, 3), (33, .iload_n 1, 1), (34, .ifCond .lt 16, 3), (37, .iload_n 1, 1), (38, .bipush 30, 2), (40, .if_icmp .ge 10, 3), (43, .aload_n 0, 1), (44, .getfield 9, 3), (47, .iload_n 1, 1), (48, .iconst 0, 1), (49, .iastore, 1), (50, .return_, 1)]
theorem tb_X8_setPeg_0_ok : dck cX8_setPeg tb_X8_setPeg_0 = true := by decide +kernel
def tb_X2_readPegs_0 : Tb := [(0, .aload_n 0, 1), (1, .getfield 32, 3), (4, .invokevirtual 149, 3), (7, .aload_n 0, 1), (8, .aload_n 0, 1), (9, .getfield 23, 3), (12, .getfield 171, 3), (15, .invokevirtual 152, 3), (18, .istore_n 1, 1), (19, .iload_n 1, 1), (20, .iconst (-1), 1), (21, .if_icmp .ne 5, 3), (24, .iconst 0, 1), (25, .ireturn, 1), (26, .aload_n 0, 1), (27, .getfield 23, 3), (30, .iload_n 1, 1), (31, .iconst 1, 1), (32, .invokevirtual 174, 3), (35, .iconst 0, 1), (36, .istore_n 2, 1), (37, .iload_n 2, 1), (38, .sipush 700, 3), (41, .if_icmp .ge 49, 3), (44, .aload_n 0, 1), (45, .getfield 32, 3), (48, .getfield 67, 3), (51, .bipush (-3), 2), (53, .if_icmp .ne 37, 3), (56, .aload_n 0, 1), (57, .aload_n 0, 1), (58, .getfield 23, 3), (61, .getfield 171, 3), (64, .invokevirtual 152, 3), (67, .istore_n 1, 1), (68, .iload_n 1, 1), (69, .iconst (-1), 1), (70, .if_icmp .ne 5, 3), (73, .iconst 0, 1), (74, .ireturn, 1)]
theorem tb_X2_readPegs_0_ok : dck cX2_readPegs tb_X2_readPegs_0 = true := by decide +kernel
def tb_X2_readPegs_1 : Tb := [(75, .aload_n 0, 1), (76, .getfield 23, 3), (79, .iload_n 1, 1), (80, .iconst 1, 1), (81, .invokevirtual 174, 3), (84, .iinc 2 1, 3), (87, .goto (-50), 3), (90, .aload_n 0, 1), (91, .getfield 32, 3), (94, .bipush 59, 2), (96, .invokevirtual 146, 3), (99, .ireturn, 1)]
theorem tb_X2_readPegs_1_ok : dck cX2_readPegs tb_X2_readPegs_1 = true := by decide +kernel
def tb_X2_readKnobs_0 : Tb := [(0, .aload_n 0, 1), (1, .iconst 2, 1), (2, .invokevirtual 135, 3), (5, .ifCond .ne 5, 3), (8, .iconst 0, 1), (9, .ireturn, 1), (10, .aload_n 0, 1), (11, .iconst 0, 1), (12, .bipush 99, 2), (14, .invokevirtual 138, 3), (17, .istore_n 1, 1), (18, .iload_n 1, 1), (19, .iconst (-1), 1), (20, .if_icmp .ne 5, 3), (23, .iconst 0, 1), (24, .ireturn, 1), (25, .aload_n 0, 1), (26, .getfield 23, 3), (29, .iload_n 1, 1), (30, .putfield 178, 3), (33, .aload_n 0, 1), (34, .getfield 32, 3), (37, .bipush 59, 2), (39, .invokevirtual 146, 3), (42, .ireturn, 1)]
theorem tb_X2_readKnobs_0_ok : dck cX2_readKnobs tb_X2_readKnobs_0 = true := by decide +kernel
def tb_X2_readRinse_0 : Tb := [(0, .aload_n 0, 1), (1, .iconst 4, 1), (2, .invokevirtual 135, 3), (5, .ifCond .ne 5, 3), (8, .iconst 0, 1), (9, .ireturn, 1), (10, .aload_n 0, 1), (11, .iconst 0, 1), (12, .bipush 20, 2), (14, .invokevirtual 138, 3), (17, .istore_n 1, 1), (18, .iload_n 1, 1), (19, .iconst (-1), 1), (20, .if_icmp .ne 5, 3), (23, .iconst 0, 1), (24, .ireturn, 1), (25, .aload_n 0, 1), (26, .getfield 12, 3), (29, .iload_n 1, 1), (30, .putfield 180, 3), (33, .aload_n 0, 1), (34, .getfield 32, 3), (37, .bipush 59, 2), (39, .invokevirtual 146, 3), (42, .ireturn, 1)]
theorem tb_X2_readRinse_0_ok : dck cX2_readRinse tb_X2_readRinse_0 = true := by decide +kernel
def tb_X2_readBound_0 : Tb := [(0, .aload_n 0, 1), (1, .bipush 8, 2), (3, .invokevirtual 135, 3), (6, .ifCond .ne 5, 3), (9, .iconst 0, 1), (10, .ireturn, 1), (11, .aload_n 0, 1), (12, .iconst 1, 1), (13, .bipush 99, 2), (15, .invokevirtual 138, 3), (18, .istore_n 1, 1), (19, .iload_n 1, 1), (20, .iconst (-1), 1), (21, .if_icmp .ne 5, 3), (24, .iconst 0, 1), (25, .ireturn, 1), (26, .aload_n 0, 1), (27, .getfield 12, 3), (30, .iload_n 1, 1), (31, .putfield 182, 3), (34, .aload_n 0, 1), (35, .getfield 32, 3), (38, .bipush 59, 2), (40, .invokevirtual 146, 3), (43, .ireturn, 1)]
theorem tb_X2_readBound_0_ok : dck cX2_readBound tb_X2_readBound_0 = true := by decide +kernel
def tb_X6_begin_0 : Tb := [(0, .aload_n 0, 1), (1, .aload_n 1, 1), (2, .putfield 15, 3), (5, .aload_n 0, 1), (6, .iload_n 2, 1), (7, .putfield 19, 3), (10, .aload_n 0, 1), (11, .getfield 15, 3), (14, .invokevirtual 23, 3), (17, .return_, 1)]
theorem tb_X6_begin_0_ok : dck cX6_begin tb_X6_begin_0 = true := by decide +kernel
def tb_X5_put_0 : Tb := [(0, .aload_n 0, 1), (1, .getfield 18, 3), (4, .ifCond .lt 35, 3), (7, .aload_n 0, 1), (8, .getfield 18, 3), (11, .aload_n 0, 1), (12, .getfield 9, 3), (15, .arraylength, 1), (16, .if_icmp .ge 23, 3), (19, .aload_n 0, 1), (20, .getfield 9, 3), (23, .aload_n 0, 1), (24, .getfield 18, 3), (27, .iload_n 1, 1), (28, .iastore, 1), (29, .aload_n 0, 1), (30, .dup, 1), (31, .getfield 18, 3), (34, .iconst 1, 1), (35, .iadd, 1), (36, .putfield 18, 3), (39, .return_, 1)]
theorem tb_X5_put_0_ok : dck cX5_put tb_X5_put_0 = true := by decide +kernel
def tb_X6_valueHere_0 : Tb := [(0, .aload_n 0, 1), (1, .getfield 9, 3), (4, .ldc 93, 2), (6, .invokevirtual 43, 3), (9, .ifCond .eq 5, 3), (12, .iconst 0, 1), (13, .ireturn, 1), (14, .aload_n 0, 1), (15, .getfield 9, 3), (18, .ldc 95, 2), (20, .invokevirtual 43, 3), (23, .ifCond .eq 5, 3), (26, .iconst 1, 1), (27, .ireturn, 1), (28, .aload_n 0, 1), (29, .getfield 9, 3), (32, .ldc 97, 2), (34, .invokevirtual 43, 3), (37, .ifCond .eq 5, 3), (40, .iconst 2, 1), (41, .ireturn, 1), (42, .aload_n 0, 1), (43, .getfield 9, 3), (46, .ldc 99, 2), (48, .invokevirtual 43, 3), (51, .ifCond .eq 5, 3), (54, .iconst 3, 1), (55, .ireturn, 1), (56, .aload_n 0, 1), (57, .getfield 19, 3), (60, .ifCond .eq 17, 3), (63, .aload_n 0, 1), (64, .getfield 9, 3), (67, .ldc 101, 2), (69, .invokevirtual 43, 3), (72, .ifCond .eq 5, 3), (75, .iconst 4, 1), (76, .ireturn, 1), (77, .aload_n 0, 1), (78, .getfield 19, 3)]
theorem tb_X6_valueHere_0_ok : dck cX6_valueHere tb_X6_valueHere_0 = true := by decide +kernel
def tb_X6_valueHere_1 : Tb := [(81, .ifCond .eq 17, 3), (84, .aload_n 0, 1), (85, .getfield 9, 3), (88, .ldc 103, 2), (90, .invokevirtual 43, 3), (93, .ifCond .eq 5, 3), (96, .iconst 5, 1), (97, .ireturn, 1), (98, .iconst (-1), 1), (99, .ireturn, 1)]
theorem tb_X6_valueHere_1_ok : dck cX6_valueHere tb_X6_valueHere_1 = true := by decide +kernel
def tb_X5_putValue_0 : Tb := [(0, .aload_n 0, 1), (1, .iconst (-1), 1), (2, .iload_n 1, 1), (3, .isub, 1), (4, .invokevirtual 22, 3), (7, .return_, 1)]
theorem tb_X5_putValue_0_ok : dck cX5_putValue tb_X5_putValue_0 = true := by decide +kernel
def tb_X6_readPart_0 : Tb := [(0, .aload_n 0, 1), (1, .getfield 9, 3), (4, .getfield 28, 3), (7, .bipush (-3), 2), (9, .if_icmp .ne 45, 3), (12, .aload_n 0, 1), (13, .getfield 9, 3), (16, .invokevirtual 73, 3), (19, .ifCond .eq 12, 3), (22, .aload_n 0, 1), (23, .getfield 9, 3), (26, .iconst 2, 1), (27, .invokevirtual 34, 3), (30, .ireturn, 1), (31, .aload_n 0, 1), (32, .getfield 15, 3), (35, .aload_n 0, 1), (36, .getfield 9, 3), (39, .getfield 77, 3), (42, .invokevirtual 50, 3), (45, .aload_n 0, 1), (46, .getfield 9, 3), (49, .invokevirtual 47, 3), (52, .iconst 1, 1), (53, .ireturn, 1), (54, .aload_n 0, 1), (55, .getfield 9, 3), (58, .getfield 28, 3), (61, .bipush (-2), 2), (63, .if_icmp .ne 39, 3), (66, .aload_n 0, 1), (67, .invokevirtual 80, 3), (70, .istore_n 2, 1), (71, .iload_n 2, 1), (72, .iconst (-1), 1), (73, .if_icmp .ne 12, 3), (76, .aload_n 0, 1), (77, .getfield 9, 3), (80, .iconst 3, 1), (81, .invokevirtual 34, 3)]
theorem tb_X6_readPart_0_ok : dck cX6_readPart tb_X6_readPart_0 = true := by decide +kernel
def tb_X6_readPart_1 : Tb := [(84, .ireturn, 1), (85, .aload_n 0, 1), (86, .getfield 15, 3), (89, .iload_n 2, 1), (90, .invokevirtual 84, 3), (93, .aload_n 0, 1), (94, .getfield 9, 3), (97, .invokevirtual 47, 3), (100, .iconst 1, 1), (101, .ireturn, 1), (102, .aload_n 0, 1), (103, .getfield 9, 3), (106, .getfield 28, 3), (109, .bipush 40, 2), (111, .if_icmp .ne 9, 3), (114, .iload_n 1, 1), (115, .bipush 6, 2), (117, .if_icmp .lt 12, 3), (120, .aload_n 0, 1), (121, .getfield 9, 3), (124, .iconst 1, 1), (125, .invokevirtual 34, 3), (128, .ireturn, 1), (129, .aload_n 0, 1), (130, .getfield 9, 3), (133, .invokevirtual 47, 3), (136, .aload_n 0, 1), (137, .iload_n 1, 1), (138, .iconst 1, 1), (139, .iadd, 1), (140, .invokevirtual 87, 3), (143, .ifCond .eq 19, 3), (146, .aload_n 0, 1), (147, .getfield 9, 3), (150, .bipush 41, 2), (152, .invokevirtual 90, 3), (155, .ifCond .eq 7, 3), (158, .iconst 1, 1), (159, .goto 4, 3), (162, .iconst 0, 1)]
theorem tb_X6_readPart_1_ok : dck cX6_readPart tb_X6_readPart_1 = true := by decide +kernel
def tb_X6_readPart_2 : Tb := [(163, .ireturn, 1)]
theorem tb_X6_readPart_2_ok : dck cX6_readPart tb_X6_readPart_2 = true := by decide +kernel
def tb_X6_readProduct_0 : Tb := [(0, .aload_n 0, 1), (1, .iload_n 1, 1), (2, .invokevirtual 70, 3), (5, .ifCond .ne 5, 3), (8, .iconst 0, 1), (9, .ireturn, 1), (10, .iconst 0, 1), (11, .istore_n 2, 1), (12, .iload_n 2, 1), (13, .sipush 700, 3), (16, .if_icmp .ge 78, 3), (19, .aload_n 0, 1), (20, .getfield 9, 3), (23, .getfield 28, 3), (26, .bipush 42, 2), (28, .if_icmp .eq 15, 3), (31, .aload_n 0, 1), (32, .getfield 9, 3), (35, .getfield 28, 3), (38, .bipush 47, 2), (40, .if_icmp .ne 54, 3), (43, .aload_n 0, 1), (44, .getfield 9, 3), (47, .getfield 28, 3), (50, .bipush 42, 2), (52, .if_icmp .ne 8, 3), (55, .bipush (-18), 2), (57, .goto 5, 3), (60, .bipush (-19), 2), (62, .istore_n 3, 1), (63, .aload_n 0, 1), (64, .getfield 9, 3), (67, .invokevirtual 47, 3), (70, .aload_n 0, 1), (71, .iload_n 1, 1), (72, .invokevirtual 70, 3), (75, .ifCond .ne 5, 3), (78, .iconst 0, 1), (79, .ireturn, 1), (80, .aload_n 0, 1)]
theorem tb_X6_readProduct_0_ok : dck cX6_readProduct tb_X6_readProduct_0 = true := by decide +kernel
def tb_X6_readProduct_1 : Tb := [(81, .getfield 15, 3), (84, .iload_n 3, 1), (85, .invokevirtual 50, 3), (88, .iinc 2 1, 3), (91, .goto (-79), 3), (94, .iconst 1, 1), (95, .ireturn, 1)]
theorem tb_X6_readProduct_1_ok : dck cX6_readProduct tb_X6_readProduct_1 = true := by decide +kernel
def tb_X6_readSum_0 : Tb := [(0, .aload_n 0, 1), (1, .iload_n 1, 1), (2, .invokevirtual 67, 3), (5, .ifCond .ne 5, 3), (8, .iconst 0, 1), (9, .ireturn, 1), (10, .iconst 0, 1), (11, .istore_n 2, 1), (12, .iload_n 2, 1), (13, .sipush 700, 3), (16, .if_icmp .ge 78, 3), (19, .aload_n 0, 1), (20, .getfield 9, 3), (23, .getfield 28, 3), (26, .bipush 43, 2), (28, .if_icmp .eq 15, 3), (31, .aload_n 0, 1), (32, .getfield 9, 3), (35, .getfield 28, 3), (38, .bipush 45, 2), (40, .if_icmp .ne 54, 3), (43, .aload_n 0, 1), (44, .getfield 9, 3), (47, .getfield 28, 3), (50, .bipush 43, 2), (52, .if_icmp .ne 8, 3), (55, .bipush (-16), 2), (57, .goto 5, 3), (60, .bipush (-17), 2), (62, .istore_n 3, 1), (63, .aload_n 0, 1), (64, .getfield 9, 3), (67, .invokevirtual 47, 3), (70, .aload_n 0, 1), (71, .iload_n 1, 1), (72, .invokevirtual 67, 3), (75, .ifCond .ne 5, 3), (78, .iconst 0, 1), (79, .ireturn, 1), (80, .aload_n 0, 1)]
theorem tb_X6_readSum_0_ok : dck cX6_readSum tb_X6_readSum_0 = true := by decide +kernel
def tb_X6_readSum_1 : Tb := [(81, .getfield 15, 3), (84, .iload_n 3, 1), (85, .invokevirtual 50, 3), (88, .iinc 2 1, 3), (91, .goto (-79), 3), (94, .iconst 1, 1), (95, .ireturn, 1)]
theorem tb_X6_readSum_1_ok : dck cX6_readSum tb_X6_readSum_1 = true := by decide +kernel
def tb_X6_readTest_0 : Tb := [(0, .aload_n 0, 1), (1, .iload_n 1, 1), (2, .invokevirtual 64, 3), (5, .ifCond .ne 5, 3), (8, .iconst 0, 1), (9, .ireturn, 1), (10, .aload_n 0, 1), (11, .getfield 9, 3), (14, .getfield 28, 3), (17, .bipush 60, 2), (19, .if_icmp .eq 17, 3), (22, .aload_n 0, 1), (23, .getfield 9, 3), (26, .getfield 28, 3), (29, .bipush 61, 2), (31, .if_icmp .eq 5, 3), (34, .iconst 1, 1), (35, .ireturn, 1), (36, .aload_n 0, 1), (37, .getfield 9, 3), (40, .getfield 28, 3), (43, .bipush 60, 2), (45, .if_icmp .ne 8, 3), (48, .bipush (-14), 2), (50, .goto 5, 3), (53, .bipush (-15), 2), (55, .istore_n 2, 1), (56, .aload_n 0, 1), (57, .getfield 9, 3), (60, .invokevirtual 47, 3), (63, .aload_n 0, 1), (64, .iload_n 1, 1), (65, .invokevirtual 64, 3), (68, .ifCond .ne 5, 3), (71, .iconst 0, 1), (72, .ireturn, 1), (73, .aload_n 0, 1), (74, .getfield 15, 3), (77, .iload_n 2, 1), (78, .invokevirtual 50, 3)]
theorem tb_X6_readTest_0_ok : dck cX6_readTest tb_X6_readTest_0 = true := by decide +kernel
def tb_X6_readTest_1 : Tb := [(81, .iconst 1, 1), (82, .ireturn, 1)]
theorem tb_X6_readTest_1_ok : dck cX6_readTest tb_X6_readTest_1 = true := by decide +kernel
def tb_X6_readNot_0 : Tb := [(0, .iconst 0, 1), (1, .istore_n 2, 1), (2, .iload_n 2, 1), (3, .bipush 6, 2), (5, .if_icmp .ge 28, 3), (8, .aload_n 0, 1), (9, .getfield 9, 3), (12, .ldc 59, 2), (14, .invokevirtual 43, 3), (17, .ifCond .eq 16, 3), (20, .aload_n 0, 1), (21, .getfield 9, 3), (24, .invokevirtual 47, 3), (27, .iinc 2 1, 3), (30, .goto (-28), 3), (33, .iload_n 2, 1), (34, .bipush 6, 2), (36, .if_icmp .ne 24, 3), (39, .aload_n 0, 1), (40, .getfield 9, 3), (43, .ldc 59, 2), (45, .invokevirtual 43, 3), (48, .ifCond .eq 12, 3), (51, .aload_n 0, 1), (52, .getfield 9, 3), (55, .iconst 2, 1), (56, .invokevirtual 34, 3), (59, .ireturn, 1), (60, .aload_n 0, 1), (61, .iload_n 1, 1), (62, .invokevirtual 61, 3), (65, .ifCond .ne 5, 3), (68, .iconst 0, 1), (69, .ireturn, 1), (70, .iconst 0, 1), (71, .istore_n 3, 1), (72, .iload_n 3, 1), (73, .iload_n 2, 1), (74, .if_icmp .ge 18, 3), (77, .aload_n 0, 1)]
theorem tb_X6_readNot_0_ok : dck cX6_readNot tb_X6_readNot_0 = true := by decide +kernel
def tb_X6_readNot_1 : Tb := [(78, .getfield 15, 3), (81, .bipush (-13), 2), (83, .invokevirtual 50, 3), (86, .iinc 3 1, 3), (89, .goto (-17), 3), (92, .iconst 1, 1), (93, .ireturn, 1)]
theorem tb_X6_readNot_1_ok : dck cX6_readNot tb_X6_readNot_1 = true := by decide +kernel
def tb_X6_readAnd_0 : Tb := [(0, .aload_n 0, 1), (1, .iload_n 1, 1), (2, .invokevirtual 54, 3), (5, .ifCond .ne 5, 3), (8, .iconst 0, 1), (9, .ireturn, 1), (10, .iconst 0, 1), (11, .istore_n 2, 1), (12, .iload_n 2, 1), (13, .sipush 700, 3), (16, .if_icmp .ge 47, 3), (19, .aload_n 0, 1), (20, .getfield 9, 3), (23, .ldc 57, 2), (25, .invokevirtual 43, 3), (28, .ifCond .eq 35, 3), (31, .aload_n 0, 1), (32, .getfield 9, 3), (35, .invokevirtual 47, 3), (38, .aload_n 0, 1), (39, .iload_n 1, 1), (40, .invokevirtual 54, 3), (43, .ifCond .ne 5, 3), (46, .iconst 0, 1), (47, .ireturn, 1), (48, .aload_n 0, 1), (49, .getfield 15, 3), (52, .bipush (-12), 2), (54, .invokevirtual 50, 3), (57, .iinc 2 1, 3), (60, .goto (-48), 3), (63, .iconst 1, 1), (64, .ireturn, 1)]
theorem tb_X6_readAnd_0_ok : dck cX6_readAnd tb_X6_readAnd_0 = true := by decide +kernel
def tb_X6_readExpr_0 : Tb := [(0, .aload_n 0, 1), (1, .getfield 9, 3), (4, .getfield 28, 3), (7, .bipush (-3), 2), (9, .if_icmp .eq 27, 3), (12, .aload_n 0, 1), (13, .getfield 9, 3), (16, .getfield 28, 3), (19, .bipush (-2), 2), (21, .if_icmp .eq 15, 3), (24, .aload_n 0, 1), (25, .getfield 9, 3), (28, .getfield 28, 3), (31, .bipush 40, 2), (33, .if_icmp .ne 7, 3), (36, .iconst 1, 1), (37, .goto 4, 3), (40, .iconst 0, 1), (41, .istore_n 2, 1), (42, .iload_n 1, 1), (43, .bipush 6, 2), (45, .if_icmp .lt 16, 3), (48, .iload_n 2, 1), (49, .ifCond .eq 12, 3), (52, .aload_n 0, 1), (53, .getfield 9, 3), (56, .iconst 2, 1), (57, .invokevirtual 34, 3), (60, .ireturn, 1), (61, .aload_n 0, 1), (62, .iload_n 1, 1), (63, .invokevirtual 38, 3), (66, .ifCond .ne 5, 3), (69, .iconst 0, 1), (70, .ireturn, 1), (71, .iconst 0, 1), (72, .istore_n 3, 1), (73, .iload_n 3, 1), (74, .sipush 700, 3), (77, .if_icmp .ge 47, 3)]
theorem tb_X6_readExpr_0_ok : dck cX6_readExpr tb_X6_readExpr_0 = true := by decide +kernel
def tb_X6_readExpr_1 : Tb := [(80, .aload_n 0, 1), (81, .getfield 9, 3), (84, .ldc 41, 2), (86, .invokevirtual 43, 3), (89, .ifCond .eq 35, 3), (92, .aload_n 0, 1), (93, .getfield 9, 3), (96, .invokevirtual 47, 3), (99, .aload_n 0, 1), (100, .iload_n 1, 1), (101, .invokevirtual 38, 3), (104, .ifCond .ne 5, 3), (107, .iconst 0, 1), (108, .ireturn, 1), (109, .aload_n 0, 1), (110, .getfield 15, 3), (113, .bipush (-11), 2), (115, .invokevirtual 50, 3), (118, .iinc 3 1, 3), (121, .goto (-48), 3), (124, .iconst 1, 1), (125, .ireturn, 1)]
theorem tb_X6_readExpr_1_ok : dck cX6_readExpr tb_X6_readExpr_1 = true := by decide +kernel
def tb_X2_readRule_0 : Tb := [(0, .aload_n 0, 1), (1, .iload_n 1, 1), (2, .invokevirtual 135, 3), (5, .ifCond .ne 5, 3), (8, .iconst 0, 1), (9, .ireturn, 1), (10, .aload_n 0, 1), (11, .getfield 45, 3), (14, .aload_n 2, 1), (15, .iload_n 1, 1), (16, .bipush 16, 2), (18, .if_icmp .ne 7, 3), (21, .iconst 1, 1), (22, .goto 4, 3), (25, .iconst 0, 1), (26, .invokevirtual 184, 3), (29, .aload_n 0, 1), (30, .getfield 45, 3), (33, .iconst 0, 1), (34, .invokevirtual 187, 3), (37, .ifCond .eq 19, 3), (40, .aload_n 0, 1), (41, .getfield 32, 3), (44, .bipush 59, 2), (46, .invokevirtual 146, 3), (49, .ifCond .eq 7, 3), (52, .iconst 1, 1), (53, .goto 4, 3), (56, .iconst 0, 1), (57, .ireturn, 1)]
theorem tb_X2_readRule_0_ok : dck cX2_readRule tb_X2_readRule_0 = true := by decide +kernel
def tb_X2_readLine_0 : Tb := [(0, .aload_n 0, 1), (1, .getfield 32, 3), (4, .ldc 80, 2), (6, .invokevirtual 82, 3), (9, .ifCond .eq 8, 3), (12, .aload_n 0, 1), (13, .invokevirtual 86, 3), (16, .ireturn, 1), (17, .aload_n 0, 1), (18, .getfield 32, 3), (21, .ldc 89, 2), (23, .invokevirtual 82, 3), (26, .ifCond .eq 8, 3), (29, .aload_n 0, 1), (30, .invokevirtual 91, 3), (33, .ireturn, 1), (34, .aload_n 0, 1), (35, .getfield 32, 3), (38, .ldc 94, 2), (40, .invokevirtual 82, 3), (43, .ifCond .eq 9, 3), (46, .aload_n 0, 1), (47, .iconst 0, 1), (48, .invokevirtual 96, 3), (51, .ireturn, 1), (52, .aload_n 0, 1), (53, .getfield 32, 3), (56, .ldc 100, 2), (58, .invokevirtual 82, 3), (61, .ifCond .eq 9, 3), (64, .aload_n 0, 1), (65, .iconst 1, 1), (66, .invokevirtual 96, 3), (69, .ireturn, 1), (70, .aload_n 0, 1), (71, .getfield 32, 3), (74, .ldc 102, 2), (76, .invokevirtual 82, 3), (79, .ifCond .eq 8, 3), (82, .aload_n 0, 1)]
theorem tb_X2_readLine_0_ok : dck cX2_readLine tb_X2_readLine_0 = true := by decide +kernel
def tb_X2_readLine_1 : Tb := [(83, .invokevirtual 104, 3), (86, .ireturn, 1), (87, .aload_n 0, 1), (88, .getfield 32, 3), (91, .ldc 107, 2), (93, .invokevirtual 82, 3), (96, .ifCond .eq 8, 3), (99, .aload_n 0, 1), (100, .invokevirtual 109, 3), (103, .ireturn, 1), (104, .aload_n 0, 1), (105, .getfield 32, 3), (108, .ldc 112, 2), (110, .invokevirtual 82, 3), (113, .ifCond .eq 8, 3), (116, .aload_n 0, 1), (117, .invokevirtual 114, 3), (120, .ireturn, 1), (121, .aload_n 0, 1), (122, .getfield 32, 3), (125, .ldc 117, 2), (127, .invokevirtual 82, 3), (130, .ifCond .eq 8, 3), (133, .aload_n 0, 1), (134, .invokevirtual 119, 3), (137, .ireturn, 1), (138, .aload_n 0, 1), (139, .getfield 32, 3), (142, .ldc 122, 2), (144, .invokevirtual 82, 3), (147, .ifCond .eq 17, 3), (150, .aload_n 0, 1), (151, .bipush 16, 2), (153, .aload_n 0, 1), (154, .getfield 12, 3), (157, .getfield 38, 3), (160, .invokevirtual 123, 3), (163, .ireturn, 1), (164, .aload_n 0, 1), (165, .getfield 32, 3)]
theorem tb_X2_readLine_1_ok : dck cX2_readLine tb_X2_readLine_1 = true := by decide +kernel
def tb_X2_readLine_2 : Tb := [(168, .ldc 127, 2), (170, .invokevirtual 82, 3), (173, .ifCond .eq 17, 3), (176, .aload_n 0, 1), (177, .bipush 32, 2), (179, .aload_n 0, 1), (180, .getfield 12, 3), (183, .getfield 129, 3), (186, .invokevirtual 123, 3), (189, .ireturn, 1), (190, .aload_n 0, 1), (191, .getfield 32, 3), (194, .iconst 1, 1), (195, .invokevirtual 131, 3), (198, .ireturn, 1)]
theorem tb_X2_readLine_2_ok : dck cX2_readLine tb_X2_readLine_2 = true := by decide +kernel
def tb_X2_read_0 : Tb := [(0, .aload_n 0, 1), (1, .getfield 12, 3), (4, .invokevirtual 49, 3), (7, .aload_n 0, 1), (8, .getfield 23, 3), (11, .invokevirtual 52, 3), (14, .aload_n 0, 1), (15, .iconst 0, 1), (16, .putfield 53, 3), (19, .aload_n 0, 1), (20, .iconst 0, 1), (21, .putfield 57, 3), (24, .aload_n 0, 1), (25, .iconst 0, 1), (26, .putfield 60, 3), (29, .aload_n 0, 1), (30, .getfield 32, 3), (33, .iload_n 1, 1), (34, .invokevirtual 64, 3), (37, .iconst 1, 1), (38, .istore_n 2, 1), (39, .iconst 0, 1), (40, .istore_n 3, 1), (41, .iload_n 3, 1), (42, .sipush 700, 3), (45, .if_icmp .ge 29, 3), (48, .iload_n 2, 1), (49, .ifCond .eq 25, 3), (52, .aload_n 0, 1), (53, .getfield 32, 3), (56, .getfield 67, 3), (59, .iconst (-1), 1), (60, .if_icmp .eq 14, 3), (63, .aload_n 0, 1), (64, .invokevirtual 70, 3), (67, .istore_n 2, 1), (68, .iinc 3 1, 3), (71, .goto (-30), 3), (74, .aload_n 0, 1), (75, .getfield 32, 3)]
theorem tb_X2_read_0_ok : dck cX2_read tb_X2_read_0 = true := by decide +kernel
def tb_X2_read_1 : Tb := [(78, .getfield 74, 3), (81, .ireturn, 1)]
theorem tb_X2_read_1_ok : dck cX2_read tb_X2_read_1 = true := by decide +kernel
def tb_X9_clear_0 : Tb := [(0, .aload_n 0, 1), (1, .iconst 0, 1), (2, .putfield 15, 3), (5, .return_, 1)]
theorem tb_X9_clear_0_ok : dck cX9_clear tb_X9_clear_0 = true := by decide +kernel
def tb_X2_faultPlace_0 : Tb := [(0, .aload_n 0, 1), (1, .getfield 32, 3), (4, .getfield 77, 3), (7, .ireturn, 1)]
theorem tb_X2_faultPlace_0_ok : dck cX2_faultPlace tb_X2_faultPlace_0 = true := by decide +kernel
def tb_X5_copyFrom_0 : Tb := [(0, .aload_n 1, 1), (1, .getfield 9, 3), (4, .iconst 0, 1), (5, .aload_n 0, 1), (6, .getfield 9, 3), (9, .iconst 0, 1), (10, .sipush 700, 3), (13, .invokestatic 26, 3), (16, .aload_n 0, 1), (17, .aload_n 1, 1), (18, .getfield 18, 3), (21, .putfield 18, 3), (24, .return_, 1)]
theorem tb_X5_copyFrom_0_ok : dck cX5_copyFrom tb_X5_copyFrom_0 = true := by decide +kernel
def tb_X1_copyFrom_0 : Tb := [(0, .aload_n 0, 1), (1, .aload_n 1, 1), (2, .getfield 48, 3), (5, .aload_n 1, 1), (6, .getfield 51, 3), (9, .invokevirtual 28, 3), (12, .aload_n 0, 1), (13, .aload_n 1, 1), (14, .getfield 32, 3), (17, .putfield 32, 3), (20, .aload_n 0, 1), (21, .aload_n 1, 1), (22, .getfield 36, 3), (25, .putfield 36, 3), (28, .aload_n 0, 1), (29, .aload_n 1, 1), (30, .getfield 39, 3), (33, .putfield 39, 3), (36, .aload_n 0, 1), (37, .aload_n 1, 1), (38, .getfield 42, 3), (41, .putfield 42, 3), (44, .aload_n 0, 1), (45, .getfield 18, 3), (48, .aload_n 1, 1), (49, .getfield 18, 3), (52, .invokevirtual 65, 3), (55, .aload_n 0, 1), (56, .getfield 22, 3), (59, .aload_n 1, 1), (60, .getfield 22, 3), (63, .invokevirtual 65, 3), (66, .return_, 1)]
theorem tb_X1_copyFrom_0_ok : dck cX1_copyFrom tb_X1_copyFrom_0 = true := by decide +kernel
def tb_X0_clear_0 : Tb := [(0, .aload_n 0, 1), (1, .iconst 0, 1), (2, .putfield 17, 3), (5, .return_, 1)]
theorem tb_X0_clear_0_ok : dck cX0_clear tb_X0_clear_0 = true := by decide +kernel
def tb_X4_begin_0 : Tb := [(0, .aload_n 0, 1), (1, .getfield 36, 3), (4, .aload_n 1, 1), (5, .invokevirtual 40, 3), (8, .aload_n 0, 1), (9, .getfield 12, 3), (12, .invokevirtual 44, 3), (15, .aload_n 0, 1), (16, .iconst 0, 1), (17, .putfield 47, 3), (20, .return_, 1)]
theorem tb_X4_begin_0_ok : dck cX4_begin tb_X4_begin_0 = true := by decide +kernel
def tb_X11_coast_0 : Tb := [(0, .iload_n 1, 1), (1, .ifCond .lt 14, 3), (4, .iload_n 1, 1), (5, .aload_n 0, 1), (6, .getfield 10, 3), (9, .getfield 93, 3), (12, .if_icmp .le 11, 3), (15, .new 96, 3), (18, .dup, 1), (19, .invokespecial 98, 3), (22, .athrow, 1), (23, .aload_n 0, 1), (24, .getfield 28, 3), (27, .iload_n 1, 1), (28, .invokevirtual 99, 3), (31, .istore_n 2, 1), (32, .aload_n 0, 1), (33, .getfield 10, 3), (36, .invokevirtual 103, 3), (39, .aload_n 0, 1), (40, .aload_n 0, 1), (41, .getfield 28, 3), (44, .invokevirtual 106, 3), (47, .putfield 81, 3), (50, .iload_n 2, 1), (51, .ifCond .eq 13, 3), (54, .aload_n 0, 1), (55, .getfield 37, 3), (58, .iconst 0, 1), (59, .invokevirtual 109, 3), (62, .iload_n 2, 1), (63, .ireturn, 1), (64, .aload_n 0, 1), (65, .getfield 19, 3), (68, .aload_n 0, 1), (69, .getfield 28, 3), (72, .getfield 112, 3), (75, .invokevirtual 115, 3), (78, .aload_n 0, 1), (79, .getfield 37, 3)]
theorem tb_X11_coast_0_ok : dck cX11_coast tb_X11_coast_0 = true := by decide +kernel
def tb_X11_coast_1 : Tb := [(82, .aload_n 0, 1), (83, .getfield 28, 3), (86, .getfield 118, 3), (89, .invokevirtual 121, 3), (92, .aload_n 0, 1), (93, .iconst 0, 1), (94, .putfield 124, 3), (97, .iconst 0, 1), (98, .ireturn, 1)]
theorem tb_X11_coast_1_ok : dck cX11_coast tb_X11_coast_1 = true := by decide +kernel
def tb_X8_allBlue_0 : Tb := [(0, .iconst 0, 1), (1, .istore_n 1, 1), (2, .iconst 0, 1), (3, .istore_n 2, 1), (4, .iload_n 2, 1), (5, .bipush 30, 2), (7, .if_icmp .ge 18, 3), (10, .iload_n 1, 1), (11, .aload_n 0, 1), (12, .getfield 9, 3), (15, .iload_n 2, 1), (16, .iaload, 1), (17, .iadd, 1), (18, .istore_n 1, 1), (19, .iinc 2 1, 3), (22, .goto (-18), 3), (25, .iload_n 1, 1), (26, .ireturn, 1)]
theorem tb_X8_allBlue_0_ok : dck cX8_allBlue tb_X8_allBlue_0 = true := by decide +kernel
def tb_X4_refused_0 : Tb := [(0, .iload_n 1, 1), (1, .ifCond .lt 17, 3), (4, .iload_n 1, 1), (5, .iconst 3, 1), (6, .if_icmp .ge 12, 3), (9, .aload_n 0, 1), (10, .getfield 28, 3), (13, .iload_n 1, 1), (14, .iaload, 1), (15, .goto 4, 3), (18, .iconst 0, 1), (19, .ireturn, 1)]
theorem tb_X4_refused_0_ok : dck cX4_refused tb_X4_refused_0 = true := by decide +kernel
def tb_X11_count_0 : Tb := [(0, .iload_n 1, 1), (1, .tableswitch 243 0 16 #[83, 91, 99, 107, 118, 129, 137, 145, 156, 167, 178, 189, 200, 208, 216, 225, 234], 83), (84, .aload_n 0, 1), (85, .getfield 19, 3), (88, .invokevirtual 128, 3), (91, .ireturn, 1), (92, .aload_n 0, 1), (93, .getfield 19, 3), (96, .getfield 131, 3), (99, .ireturn, 1), (100, .aload_n 0, 1), (101, .getfield 19, 3), (104, .getfield 134, 3), (107, .ireturn, 1), (108, .aload_n 0, 1), (109, .getfield 37, 3), (112, .getfield 53, 3), (115, .getfield 137, 3), (118, .ireturn, 1), (119, .aload_n 0, 1), (120, .getfield 37, 3), (123, .getfield 53, 3), (126, .getfield 140, 3), (129, .ireturn, 1), (130, .aload_n 0, 1), (131, .getfield 19, 3), (134, .getfield 143, 3), (137, .ireturn, 1), (138, .aload_n 0, 1), (139, .getfield 19, 3), (142, .getfield 146, 3), (145, .ireturn, 1), (146, .aload_n 0, 1), (147, .getfield 37, 3), (150, .getfield 53, 3), (153, .getfield 149, 3), (156, .ireturn, 1), (157, .aload_n 0, 1), (158, .getfield 37, 3), (161, .getfield 53, 3)]
theorem tb_X11_count_0_ok : dck cX11_count tb_X11_count_0 = true := by decide +kernel
def tb_X11_count_1 : Tb := [(164, .getfield 152, 3), (167, .ireturn, 1), (168, .aload_n 0, 1), (169, .getfield 37, 3), (172, .getfield 53, 3), (175, .getfield 155, 3), (178, .ireturn, 1), (179, .aload_n 0, 1), (180, .getfield 37, 3), (183, .getfield 53, 3), (186, .invokevirtual 158, 3), (189, .ireturn, 1), (190, .aload_n 0, 1), (191, .getfield 37, 3), (194, .getfield 161, 3), (197, .getfield 165, 3), (200, .ireturn, 1), (201, .aload_n 0, 1), (202, .getfield 37, 3), (205, .getfield 170, 3), (208, .ireturn, 1), (209, .aload_n 0, 1), (210, .getfield 10, 3), (213, .getfield 93, 3), (216, .ireturn, 1), (217, .aload_n 0, 1), (218, .getfield 37, 3), (221, .iconst 0, 1), (222, .invokevirtual 173, 3), (225, .ireturn, 1), (226, .aload_n 0, 1), (227, .getfield 37, 3), (230, .iconst 1, 1), (231, .invokevirtual 173, 3), (234, .ireturn, 1), (235, .aload_n 0, 1), (236, .getfield 37, 3), (239, .iconst 2, 1), (240, .invokevirtual 173, 3), (243, .ireturn, 1)]
theorem tb_X11_count_1_ok : dck cX11_count tb_X11_count_1 = true := by decide +kernel
def tb_X11_count_2 : Tb := [(244, .new 176, 3), (247, .dup, 1), (248, .invokespecial 178, 3), (251, .athrow, 1)]
theorem tb_X11_count_2_ok : dck cX11_count tb_X11_count_2 = true := by decide +kernel
def tb_X11_needCell_0 : Tb := [(0, .iload_n 1, 1), (1, .ifCond .lt 14, 3), (4, .iload_n 1, 1), (5, .aload_n 0, 1), (6, .getfield 19, 3), (9, .invokevirtual 128, 3), (12, .if_icmp .lt 11, 3), (15, .new 176, 3), (18, .dup, 1), (19, .invokespecial 178, 3), (22, .athrow, 1), (23, .return_, 1)]
theorem tb_X11_needCell_0_ok : dck cX11_needCell tb_X11_needCell_0 = true := by decide +kernel
def tb_X8_girlsAt_0 : Tb := [(0, .iconst 0, 1), (1, .istore_n 2, 1), (2, .iconst 0, 1), (3, .istore_n 3, 1), (4, .iload_n 3, 1), (5, .aload_n 0, 1), (6, .getfield 32, 3), (9, .getfield 74, 3), (12, .if_icmp .ge 24, 3), (15, .aload_n 0, 1), (16, .iload_n 3, 1), (17, .invokevirtual 132, 3), (20, .iload_n 1, 1), (21, .if_icmp .ne 9, 3), (24, .iload_n 2, 1), (25, .iconst 1, 1), (26, .iload_n 3, 1), (27, .ishl, 1), (28, .ior, 1), (29, .istore_n 2, 1), (30, .iinc 3 1, 3), (33, .goto (-29), 3), (36, .iload_n 2, 1), (37, .ireturn, 1)]
theorem tb_X8_girlsAt_0_ok : dck cX8_girlsAt tb_X8_girlsAt_0 = true := by decide +kernel
def tb_X8_besideWithin_0 : Tb := [(0, .iconst 0, 1), (1, .istore_n 3, 1), (2, .iconst 0, 1), (3, .istore 4, 2), (5, .iload 4, 2), (7, .aload_n 0, 1), (8, .getfield 32, 3), (11, .invokevirtual 147, 3), (14, .if_icmp .ge 80, 3), (17, .aload_n 0, 1), (18, .getfield 32, 3), (21, .iload 4, 2), (23, .invokevirtual 144, 3), (26, .iload_n 1, 1), (27, .iand, 1), (28, .istore 5, 2), (30, .iconst 0, 1), (31, .istore 6, 2), (33, .iload 6, 2), (35, .aload_n 0, 1), (36, .getfield 32, 3), (39, .invokevirtual 147, 3), (42, .if_icmp .ge 46, 3), (45, .iload 5, 2), (47, .iload 6, 2), (49, .ishr, 1), (50, .iconst 1, 1), (51, .iand, 1), (52, .ifCond .eq 30, 3), (55, .aload_n 0, 1), (56, .iload 6, 2), (58, .invokevirtual 118, 3), (61, .aload_n 0, 1), (62, .iload 4, 2), (64, .invokevirtual 118, 3), (67, .isub, 1), (68, .invokestatic 172, 3), (71, .iload_n 2, 1), (72, .if_icmp .gt 10, 3), (75, .iload_n 3, 1)]
theorem tb_X8_besideWithin_0_ok : dck cX8_besideWithin tb_X8_besideWithin_0 = true := by decide +kernel
def tb_X8_besideWithin_1 : Tb := [(76, .iconst 1, 1), (77, .iload 4, 2), (79, .ishl, 1), (80, .ior, 1), (81, .istore_n 3, 1), (82, .iinc 6 1, 3), (85, .goto (-52), 3), (88, .iinc 4 1, 3), (91, .goto (-86), 3), (94, .iload_n 3, 1), (95, .ireturn, 1)]
theorem tb_X8_besideWithin_1_ok : dck cX8_besideWithin tb_X8_besideWithin_1 = true := by decide +kernel
def tb_X8_patchBits_0 : Tb := [(0, .iconst 1, 1), (1, .iload_n 1, 1), (2, .ishl, 1), (3, .istore_n 3, 1), (4, .iconst 0, 1), (5, .istore 4, 2), (7, .iload 4, 2), (9, .bipush 30, 2), (11, .if_icmp .ge 30, 3), (14, .iload_n 3, 1), (15, .aload_n 0, 1), (16, .iload_n 3, 1), (17, .iload_n 2, 1), (18, .invokevirtual 169, 3), (21, .ior, 1), (22, .istore 5, 2), (24, .iload 5, 2), (26, .iload_n 3, 1), (27, .if_icmp .ne 5, 3), (30, .iload_n 3, 1), (31, .ireturn, 1), (32, .iload 5, 2), (34, .istore_n 3, 1), (35, .iinc 4 1, 3), (38, .goto (-31), 3), (41, .iload_n 3, 1), (42, .ireturn, 1)]
theorem tb_X8_patchBits_0_ok : dck cX8_patchBits tb_X8_patchBits_0 = true := by decide +kernel
def tb_X11_cell_0 : Tb := [(0, .aload_n 0, 1), (1, .iload_n 1, 1), (2, .invokevirtual 179, 3), (5, .iload_n 2, 1), (6, .tableswitch 76 0 3 #[30, 42, 51, 63], 30), (36, .aload_n 0, 1), (37, .getfield 37, 3), (40, .getfield 53, 3), (43, .iload_n 1, 1), (44, .invokevirtual 182, 3), (47, .ireturn, 1), (48, .aload_n 0, 1), (49, .getfield 19, 3), (52, .iload_n 1, 1), (53, .invokevirtual 185, 3), (56, .ireturn, 1), (57, .aload_n 0, 1), (58, .getfield 37, 3), (61, .getfield 53, 3), (64, .iload_n 1, 1), (65, .invokevirtual 188, 3), (68, .ireturn, 1), (69, .aload_n 0, 1), (70, .getfield 37, 3), (73, .getfield 53, 3), (76, .iload_n 1, 1), (77, .iconst 0, 1), (78, .invokevirtual 191, 3), (81, .ireturn, 1), (82, .new 176, 3), (85, .dup, 1), (86, .invokespecial 178, 3), (89, .athrow, 1)]
theorem tb_X11_cell_0_ok : dck cX11_cell tb_X11_cell_0 = true := by decide +kernel
def tb_X11_needGirl_0 : Tb := [(0, .iload_n 1, 1), (1, .ifCond .lt 14, 3), (4, .iload_n 1, 1), (5, .aload_n 0, 1), (6, .getfield 19, 3), (9, .getfield 134, 3), (12, .if_icmp .lt 11, 3), (15, .new 176, 3), (18, .dup, 1), (19, .invokespecial 178, 3), (22, .athrow, 1), (23, .return_, 1)]
theorem tb_X11_needGirl_0_ok : dck cX11_needGirl tb_X11_needGirl_0 = true := by decide +kernel
def tb_X11_girl_0 : Tb := [(0, .aload_n 0, 1), (1, .iload_n 1, 1), (2, .invokevirtual 195, 3), (5, .iload_n 2, 1), (6, .tableswitch 99 0 3 #[30, 42, 54, 71], 30), (36, .aload_n 0, 1), (37, .getfield 37, 3), (40, .getfield 53, 3), (43, .iload_n 1, 1), (44, .invokevirtual 198, 3), (47, .ireturn, 1), (48, .aload_n 0, 1), (49, .getfield 37, 3), (52, .getfield 53, 3), (55, .iload_n 1, 1), (56, .invokevirtual 201, 3), (59, .ireturn, 1), (60, .aload_n 0, 1), (61, .getfield 19, 3), (64, .iload_n 1, 1), (65, .invokevirtual 204, 3), (68, .ifCond .eq 7, 3), (71, .iconst 1, 1), (72, .goto 4, 3), (75, .iconst 0, 1), (76, .ireturn, 1), (77, .aload_n 0, 1), (78, .getfield 37, 3), (81, .getfield 53, 3), (84, .iload_n 1, 1), (85, .iconst 0, 1), (86, .aload_n 0, 1), (87, .getfield 37, 3), (90, .getfield 53, 3), (93, .getfield 140, 3), (96, .iconst 1, 1), (97, .isub, 1), (98, .invokestatic 207, 3), (101, .invokevirtual 212, 3), (104, .ireturn, 1)]
theorem tb_X11_girl_0_ok : dck cX11_girl tb_X11_girl_0 = true := by decide +kernel
def tb_X11_girl_1 : Tb := [(105, .new 176, 3), (108, .dup, 1), (109, .invokespecial 178, 3), (112, .athrow, 1)]
theorem tb_X11_girl_1_ok : dck cX11_girl tb_X11_girl_1 = true := by decide +kernel
def tb_X11_rest_0 : Tb := [(0, .aload_n 0, 1), (1, .iload_n 1, 1), (2, .invokevirtual 195, 3), (5, .aload_n 0, 1), (6, .getfield 37, 3), (9, .getfield 53, 3), (12, .iload_n 1, 1), (13, .invokevirtual 224, 3), (16, .iload_n 2, 1), (17, .if_icmp .ne 13, 3), (20, .aload_n 0, 1), (21, .getfield 37, 3), (24, .iconst 1, 1), (25, .invokevirtual 109, 3), (28, .iconst 0, 1), (29, .ireturn, 1), (30, .aload_n 0, 1), (31, .getfield 37, 3), (34, .invokevirtual 218, 3), (37, .aload_n 0, 1), (38, .getfield 37, 3), (41, .getfield 53, 3), (44, .iload_n 1, 1), (45, .iload_n 2, 1), (46, .invokevirtual 227, 3), (49, .iconst 1, 1), (50, .ireturn, 1)]
theorem tb_X11_rest_0_ok : dck cX11_rest tb_X11_rest_0 = true := by decide +kernel
def tb_X11_go_0 : Tb := [(0, .aload_n 0, 1), (1, .iload_n 1, 1), (2, .invokevirtual 195, 3), (5, .aload_n 0, 1), (6, .iload_n 2, 1), (7, .invokevirtual 179, 3), (10, .aload_n 0, 1), (11, .getfield 37, 3), (14, .getfield 53, 3), (17, .iload_n 1, 1), (18, .invokevirtual 201, 3), (21, .istore_n 3, 1), (22, .iload_n 3, 1), (23, .iload_n 2, 1), (24, .if_icmp .ne 8, 3), (27, .aload_n 0, 1), (28, .invokevirtual 215, 3), (31, .ireturn, 1), (32, .aload_n 0, 1), (33, .getfield 37, 3), (36, .invokevirtual 218, 3), (39, .aload_n 0, 1), (40, .getfield 37, 3), (43, .getfield 53, 3), (46, .iload_n 1, 1), (47, .iload_n 2, 1), (48, .invokevirtual 231, 3), (51, .iload_n 3, 1), (52, .ireturn, 1)]
theorem tb_X11_go_0_ok : dck cX11_go tb_X11_go_0 = true := by decide +kernel
def tb_X11_peg_0 : Tb := [(0, .aload_n 0, 1), (1, .iload_n 1, 1), (2, .invokevirtual 179, 3), (5, .aload_n 0, 1), (6, .getfield 37, 3), (9, .getfield 53, 3), (12, .iload_n 1, 1), (13, .invokevirtual 238, 3), (16, .iload_n 2, 1), (17, .if_icmp .ne 8, 3), (20, .aload_n 0, 1), (21, .invokevirtual 215, 3), (24, .ireturn, 1), (25, .aload_n 0, 1), (26, .getfield 37, 3), (29, .invokevirtual 218, 3), (32, .aload_n 0, 1), (33, .getfield 37, 3), (36, .getfield 53, 3), (39, .iload_n 1, 1), (40, .invokevirtual 182, 3), (43, .istore_n 3, 1), (44, .aload_n 0, 1), (45, .getfield 37, 3), (48, .getfield 53, 3), (51, .iload_n 1, 1), (52, .iload_n 2, 1), (53, .invokevirtual 241, 3), (56, .iload_n 3, 1), (57, .ireturn, 1)]
theorem tb_X11_peg_0_ok : dck cX11_peg tb_X11_peg_0 = true := by decide +kernel
end
section
def tb_X11_needWithin_0 : Tb := [(0, .iload_n 1, 1), (1, .iload_n 2, 1), (2, .if_icmp .lt 8, 3), (5, .iload_n 1, 1), (6, .iload_n 3, 1), (7, .if_icmp .le 11, 3), (10, .new 96, 3), (13, .dup, 1), (14, .invokespecial 98, 3), (17, .athrow, 1), (18, .return_, 1)]
theorem tb_X11_needWithin_0_ok : dck cX11_needWithin tb_X11_needWithin_0 = true := by decide +kernel
def tb_X11_then_0 : Tb := [(0, .aload_n 0, 1), (1, .iload_n 1, 1), (2, .invokevirtual 179, 3), (5, .aload_n 0, 1), (6, .iload_n 2, 1), (7, .iconst 0, 1), (8, .bipush 40, 2), (10, .invokevirtual 248, 3), (13, .aload_n 0, 1), (14, .iload_n 2, 1), (15, .invokevirtual 252, 3), (18, .aload_n 0, 1), (19, .getfield 47, 3), (22, .iload_n 1, 1), (23, .invokevirtual 182, 3), (26, .ireturn, 1)]
theorem tb_X11_then_0_ok : dck cX11_then tb_X11_then_0 = true := by decide +kernel
def tb_X11_needWhat_0 : Tb := [(0, .iload_n 1, 1), (1, .ifCond .lt 8, 3), (4, .iload_n 1, 1), (5, .iload_n 2, 1), (6, .if_icmp .le 11, 3), (9, .new 176, 3), (12, .dup, 1), (13, .invokespecial 178, 3), (16, .athrow, 1), (17, .return_, 1)]
theorem tb_X11_needWhat_0_ok : dck cX11_needWhat tb_X11_needWhat_0 = true := by decide +kernel
def tb_X11_sky_0 : Tb := [(0, .aload_n 0, 1), (1, .iload_n 2, 1), (2, .iconst 4, 1), (3, .invokevirtual 255, 3), (6, .aload_n 0, 1), (7, .iload_n 1, 1), (8, .iconst 0, 1), (9, .bipush 40, 2), (11, .invokevirtual 248, 3), (14, .aload_n 0, 1), (15, .iload_n 1, 1), (16, .invokevirtual 252, 3), (19, .iload_n 2, 1), (20, .tableswitch 64 0 3 #[32, 40, 48, 56], 32), (52, .aload_n 0, 1), (53, .getfield 47, 3), (56, .getfield 140, 3), (59, .ireturn, 1), (60, .aload_n 0, 1), (61, .getfield 47, 3), (64, .getfield 149, 3), (67, .ireturn, 1), (68, .aload_n 0, 1), (69, .getfield 47, 3), (72, .invokevirtual 258, 3), (75, .ireturn, 1), (76, .aload_n 0, 1), (77, .getfield 47, 3), (80, .invokevirtual 261, 3), (83, .ireturn, 1), (84, .aload_n 0, 1), (85, .getfield 47, 3), (88, .invokevirtual 264, 3), (91, .ireturn, 1)]
theorem tb_X11_sky_0_ok : dck cX11_sky tb_X11_sky_0 = true := by decide +kernel
def tb_X11_overdone_0 : Tb := [(0, .aload_n 0, 1), (1, .iload_n 1, 1), (2, .iconst 1, 1), (3, .bipush 40, 2), (5, .invokevirtual 248, 3), (8, .aload_n 0, 1), (9, .iload_n 1, 1), (10, .invokevirtual 252, 3), (13, .aload_n 0, 1), (14, .getfield 47, 3), (17, .getfield 267, 3), (20, .ireturn, 1)]
theorem tb_X11_overdone_0_ok : dck cX11_overdone tb_X11_overdone_0 = true := by decide +kernel
def tb_X11_first_0 : Tb := [(0, .aload_n 0, 1), (1, .iload_n 1, 1), (2, .invokevirtual 179, 3), (5, .aload_n 0, 1), (6, .iconst 0, 1), (7, .invokevirtual 252, 3), (10, .iconst 1, 1), (11, .istore_n 2, 1), (12, .iload_n 2, 1), (13, .bipush 40, 2), (15, .if_icmp .gt 32, 3), (18, .aload_n 0, 1), (19, .getfield 47, 3), (22, .invokevirtual 221, 3), (25, .aload_n 0, 1), (26, .getfield 47, 3), (29, .getfield 267, 3), (32, .iload_n 1, 1), (33, .ishr, 1), (34, .iconst 1, 1), (35, .iand, 1), (36, .ifCond .eq 5, 3), (39, .iload_n 2, 1), (40, .ireturn, 1), (41, .iinc 2 1, 3), (44, .goto (-32), 3), (47, .iconst (-1), 1), (48, .ireturn, 1)]
theorem tb_X11_first_0_ok : dck cX11_first tb_X11_first_0 = true := by decide +kernel
def tb_X8_runFrom_0 : Tb := [(0, .iconst 1, 1), (1, .istore_n 2, 1), (2, .iload_n 1, 1), (3, .iconst 1, 1), (4, .iadd, 1), (5, .istore_n 3, 1), (6, .iload_n 3, 1), (7, .aload_n 0, 1), (8, .getfield 32, 3), (11, .invokevirtual 147, 3), (14, .if_icmp .ge 46, 3), (17, .aload_n 0, 1), (18, .getfield 32, 3), (21, .iload_n 3, 1), (22, .invokevirtual 160, 3), (25, .aload_n 0, 1), (26, .getfield 32, 3), (29, .iload_n 1, 1), (30, .invokevirtual 160, 3), (33, .if_icmp .ne 16, 3), (36, .aload_n 0, 1), (37, .iload_n 3, 1), (38, .invokevirtual 118, 3), (41, .aload_n 0, 1), (42, .iload_n 1, 1), (43, .invokevirtual 118, 3), (46, .if_icmp .eq 5, 3), (49, .iload_n 2, 1), (50, .ireturn, 1), (51, .iinc 2 1, 3), (54, .iinc 3 1, 3), (57, .goto (-51), 3), (60, .iload_n 2, 1), (61, .ireturn, 1)]
theorem tb_X8_runFrom_0_ok : dck cX8_runFrom tb_X8_runFrom_0 = true := by decide +kernel
def tb_X11_streak_0 : Tb := [(0, .aload_n 0, 1), (1, .iload_n 1, 1), (2, .iconst 1, 1), (3, .invokevirtual 255, 3), (6, .iconst 0, 1), (7, .istore_n 2, 1), (8, .iconst 0, 1), (9, .istore_n 3, 1), (10, .iconst 0, 1), (11, .istore 4, 2), (13, .iload 4, 2), (15, .aload_n 0, 1), (16, .getfield 19, 3), (19, .invokevirtual 128, 3), (22, .if_icmp .ge 35, 3), (25, .aload_n 0, 1), (26, .getfield 37, 3), (29, .getfield 53, 3), (32, .iload 4, 2), (34, .invokevirtual 280, 3), (37, .istore 5, 2), (39, .iload 5, 2), (41, .iload_n 2, 1), (42, .if_icmp .le 9, 3), (45, .iload 5, 2), (47, .istore_n 2, 1), (48, .iload 4, 2), (50, .istore_n 3, 1), (51, .iinc 4 1, 3), (54, .goto (-41), 3), (57, .iload_n 1, 1), (58, .ifCond .ne 7, 3), (61, .iload_n 2, 1), (62, .goto 4, 3), (65, .iload_n 3, 1), (66, .ireturn, 1)]
theorem tb_X11_streak_0_ok : dck cX11_streak tb_X11_streak_0 = true := by decide +kernel
def tb_X11_patch_0 : Tb := [(0, .aload_n 0, 1), (1, .iload_n 1, 1), (2, .invokevirtual 179, 3), (5, .aload_n 0, 1), (6, .iload_n 2, 1), (7, .iconst 0, 1), (8, .bipush 99, 2), (10, .invokevirtual 248, 3), (13, .aload_n 0, 1), (14, .getfield 37, 3), (17, .getfield 53, 3), (20, .iload_n 1, 1), (21, .iload_n 2, 1), (22, .invokevirtual 191, 3), (25, .ireturn, 1)]
theorem tb_X11_patch_0_ok : dck cX11_patch tb_X11_patch_0 = true := by decide +kernel
def tb_X11_patches_0 : Tb := [(0, .aload_n 0, 1), (1, .iload_n 1, 1), (2, .iconst 0, 1), (3, .bipush 99, 2), (5, .invokevirtual 248, 3), (8, .iconst 0, 1), (9, .istore_n 2, 1), (10, .iconst 0, 1), (11, .istore_n 3, 1), (12, .iconst 0, 1), (13, .istore 4, 2), (15, .iload 4, 2), (17, .aload_n 0, 1), (18, .getfield 19, 3), (21, .invokevirtual 128, 3), (24, .if_icmp .ge 37, 3), (27, .iload_n 3, 1), (28, .iload 4, 2), (30, .ishr, 1), (31, .iconst 1, 1), (32, .iand, 1), (33, .ifCond .ne 22, 3), (36, .iload_n 3, 1), (37, .aload_n 0, 1), (38, .getfield 37, 3), (41, .getfield 53, 3), (44, .iload 4, 2), (46, .iload_n 1, 1), (47, .invokevirtual 191, 3), (50, .ior, 1), (51, .istore_n 3, 1), (52, .iinc 2 1, 3), (55, .iinc 4 1, 3), (58, .goto (-43), 3), (61, .iload_n 2, 1), (62, .ireturn, 1)]
theorem tb_X11_patches_0_ok : dck cX11_patches tb_X11_patches_0 = true := by decide +kernel
def tb_X8_wayBetween_0 : Tb := [(0, .aload_n 0, 1), (1, .iload_n 1, 1), (2, .invokevirtual 70, 3), (5, .ifCond .ne 11, 3), (8, .aload_n 0, 1), (9, .iload_n 2, 1), (10, .invokevirtual 70, 3), (13, .ifCond .eq 5, 3), (16, .iconst (-1), 1), (17, .ireturn, 1), (18, .iconst 1, 1), (19, .iload_n 1, 1), (20, .ishl, 1), (21, .istore_n 3, 1), (22, .iconst 0, 1), (23, .istore 4, 2), (25, .iload 4, 2), (27, .bipush 30, 2), (29, .if_icmp .ge 79, 3), (32, .iload_n 3, 1), (33, .iload_n 2, 1), (34, .ishr, 1), (35, .iconst 1, 1), (36, .iand, 1), (37, .ifCond .eq 6, 3), (40, .iload 4, 2), (42, .ireturn, 1), (43, .iload_n 3, 1), (44, .istore 5, 2), (46, .iconst 0, 1), (47, .istore 6, 2), (49, .iload 6, 2), (51, .aload_n 0, 1), (52, .getfield 32, 3), (55, .invokevirtual 147, 3), (58, .if_icmp .ge 41, 3), (61, .aload_n 0, 1), (62, .iload 6, 2), (64, .invokevirtual 70, 3), (67, .ifCond .ne 26, 3)]
theorem tb_X8_wayBetween_0_ok : dck cX8_wayBetween tb_X8_wayBetween_0 = true := by decide +kernel
def tb_X8_wayBetween_1 : Tb := [(70, .aload_n 0, 1), (71, .getfield 32, 3), (74, .iload 6, 2), (76, .invokevirtual 144, 3), (79, .iload_n 3, 1), (80, .iand, 1), (81, .ifCond .eq 12, 3), (84, .iload 5, 2), (86, .iconst 1, 1), (87, .iload 6, 2), (89, .ishl, 1), (90, .ior, 1), (91, .istore 5, 2), (93, .iinc 6 1, 3), (96, .goto (-47), 3), (99, .iload 5, 2), (101, .istore_n 3, 1), (102, .iinc 4 1, 3), (105, .goto (-80), 3), (108, .iconst (-1), 1), (109, .ireturn, 1)]
theorem tb_X8_wayBetween_1_ok : dck cX8_wayBetween tb_X8_wayBetween_1 = true := by decide +kernel
def tb_X11_way_0 : Tb := [(0, .aload_n 0, 1), (1, .iload_n 1, 1), (2, .invokevirtual 179, 3), (5, .aload_n 0, 1), (6, .iload_n 2, 1), (7, .invokevirtual 179, 3), (10, .aload_n 0, 1), (11, .getfield 37, 3), (14, .getfield 53, 3), (17, .iload_n 1, 1), (18, .iload_n 2, 1), (19, .invokevirtual 283, 3), (22, .ireturn, 1)]
theorem tb_X11_way_0_ok : dck cX11_way tb_X11_way_0 = true := by decide +kernel
def tb_X11_toStand_0 : Tb := [(0, .aload_n 0, 1), (1, .iload_n 1, 1), (2, .invokevirtual 195, 3), (5, .aload_n 0, 1), (6, .iload_n 2, 1), (7, .iconst 1, 1), (8, .invokevirtual 255, 3), (11, .iconst 0, 1), (12, .istore_n 3, 1), (13, .ldc_w 289, 3), (16, .istore 4, 2), (18, .iconst 0, 1), (19, .istore 5, 2), (21, .iload 5, 2), (23, .aload_n 0, 1), (24, .getfield 19, 3), (27, .invokevirtual 128, 3), (30, .if_icmp .ge 54, 3), (33, .aload_n 0, 1), (34, .iconst 0, 1), (35, .invokevirtual 252, 3), (38, .aload_n 0, 1), (39, .getfield 47, 3), (42, .iload_n 1, 1), (43, .iload 5, 2), (45, .invokevirtual 231, 3), (48, .aload_n 0, 1), (49, .getfield 47, 3), (52, .invokevirtual 221, 3), (55, .aload_n 0, 1), (56, .getfield 47, 3), (59, .invokevirtual 258, 3), (62, .istore 6, 2), (64, .iload 6, 2), (66, .iload 4, 2), (68, .if_icmp .ge 10, 3), (71, .iload 6, 2), (73, .istore 4, 2), (75, .iload 5, 2), (77, .istore_n 3, 1)]
theorem tb_X11_toStand_0_ok : dck cX11_toStand tb_X11_toStand_0 = true := by decide +kernel
def tb_X11_toStand_1 : Tb := [(78, .iinc 5 1, 3), (81, .goto (-60), 3), (84, .iload_n 2, 1), (85, .ifCond .ne 7, 3), (88, .iload_n 3, 1), (89, .goto 5, 3), (92, .iload 4, 2), (94, .ireturn, 1)]
theorem tb_X11_toStand_1_ok : dck cX11_toStand tb_X11_toStand_1 = true := by decide +kernel
def tb_X11_toSwish_0 : Tb := [(0, .aload_n 0, 1), (1, .iload_n 1, 1), (2, .invokevirtual 195, 3), (5, .aload_n 0, 1), (6, .iload_n 2, 1), (7, .iconst 0, 1), (8, .bipush 99, 2), (10, .invokevirtual 248, 3), (13, .aload_n 0, 1), (14, .iconst 0, 1), (15, .invokevirtual 252, 3), (18, .aload_n 0, 1), (19, .getfield 47, 3), (22, .iload_n 1, 1), (23, .invokevirtual 201, 3), (26, .istore_n 3, 1), (27, .iconst 0, 1), (28, .istore 4, 2), (30, .iload 4, 2), (32, .bipush 20, 2), (34, .if_icmp .gt 39, 3), (37, .aload_n 0, 1), (38, .getfield 47, 3), (41, .iload_n 3, 1), (42, .invokevirtual 182, 3), (45, .iload_n 2, 1), (46, .if_icmp .lt 6, 3), (49, .iload 4, 2), (51, .ireturn, 1), (52, .aload_n 0, 1), (53, .getfield 47, 3), (56, .iload_n 1, 1), (57, .aload_n 0, 1), (58, .getfield 47, 3), (61, .getfield 140, 3), (64, .invokevirtual 293, 3), (67, .iinc 4 1, 3), (70, .goto (-40), 3), (73, .iconst (-1), 1), (74, .ireturn, 1)]
theorem tb_X11_toSwish_0_ok : dck cX11_toSwish tb_X11_toSwish_0 = true := by decide +kernel
def tb_X1_stepsBetween_0 : Tb := [(0, .aload_n 0, 1), (1, .iload_n 1, 1), (2, .invokevirtual 69, 3), (5, .aload_n 0, 1), (6, .iload_n 2, 1), (7, .invokevirtual 69, 3), (10, .isub, 1), (11, .invokestatic 72, 3), (14, .aload_n 0, 1), (15, .iload_n 1, 1), (16, .invokevirtual 62, 3), (19, .aload_n 0, 1), (20, .iload_n 2, 1), (21, .invokevirtual 62, 3), (24, .isub, 1), (25, .invokestatic 72, 3), (28, .iadd, 1), (29, .ireturn, 1)]
theorem tb_X1_stepsBetween_0_ok : dck cX1_stepsBetween tb_X1_stepsBetween_0 = true := by decide +kernel
def tb_X7_fill_0 : Tb := [(0, .iload_n 3, 1), (1, .aload_n 0, 1), (2, .getfield 41, 3), (5, .if_icmp .lt 4, 3), (8, .return_, 1), (9, .iload_n 1, 1), (10, .aload_n 0, 1), (11, .getfield 25, 3), (14, .if_icmp .ge 9, 3), (17, .iload_n 1, 1), (18, .bipush 6, 2), (20, .if_icmp .lt 24, 3), (23, .aload_n 0, 1), (24, .iload_n 3, 1), (25, .putfield 41, 3), (28, .aload_n 0, 1), (29, .getfield 15, 3), (32, .iconst 0, 1), (33, .aload_n 0, 1), (34, .getfield 18, 3), (37, .iconst 0, 1), (38, .bipush 6, 2), (40, .invokestatic 48, 3), (43, .return_, 1), (44, .iconst 0, 1), (45, .istore 4, 2), (47, .iload 4, 2), (49, .aload_n 0, 1), (50, .getfield 21, 3), (53, .getfield 29, 3), (56, .getfield 35, 3), (59, .if_icmp .ge 66, 3), (62, .iload_n 2, 1), (63, .iload 4, 2), (65, .ishr, 1), (66, .iconst 1, 1), (67, .iand, 1), (68, .ifCond .ne 51, 3), (71, .aload_n 0, 1), (72, .getfield 15, 3)]
theorem tb_X7_fill_0_ok : dck cX7_fill tb_X7_fill_0 = true := by decide +kernel
def tb_X7_fill_1 : Tb := [(75, .iload_n 1, 1), (76, .iload 4, 2), (78, .iastore, 1), (79, .aload_n 0, 1), (80, .iload_n 1, 1), (81, .iconst 1, 1), (82, .iadd, 1), (83, .iload_n 2, 1), (84, .iconst 1, 1), (85, .iload 4, 2), (87, .ishl, 1), (88, .ior, 1), (89, .iload_n 3, 1), (90, .aload_n 0, 1), (91, .getfield 21, 3), (94, .getfield 29, 3), (97, .aload_n 0, 1), (98, .getfield 21, 3), (101, .iload 4, 2), (103, .invokevirtual 54, 3), (106, .aload_n 0, 1), (107, .getfield 9, 3), (110, .iload_n 1, 1), (111, .iaload, 1), (112, .invokevirtual 58, 3), (115, .iadd, 1), (116, .invokevirtual 44, 3), (119, .iinc 4 1, 3), (122, .goto (-75), 3), (125, .return_, 1)]
theorem tb_X7_fill_1_ok : dck cX7_fill tb_X7_fill_1 = true := by decide +kernel
def tb_X7_find_0 : Tb := [(0, .aload_n 0, 1), (1, .iconst 0, 1), (2, .putfield 25, 3), (5, .iconst 0, 1), (6, .istore_n 2, 1), (7, .iload_n 2, 1), (8, .bipush 30, 2), (10, .if_icmp .ge 46, 3), (13, .iload_n 1, 1), (14, .iload_n 2, 1), (15, .ishr, 1), (16, .iconst 1, 1), (17, .iand, 1), (18, .ifCond .eq 32, 3), (21, .aload_n 0, 1), (22, .getfield 25, 3), (25, .bipush 6, 2), (27, .if_icmp .ge 23, 3), (30, .aload_n 0, 1), (31, .getfield 9, 3), (34, .aload_n 0, 1), (35, .getfield 25, 3), (38, .iload_n 2, 1), (39, .iastore, 1), (40, .aload_n 0, 1), (41, .dup, 1), (42, .getfield 25, 3), (45, .iconst 1, 1), (46, .iadd, 1), (47, .putfield 25, 3), (50, .iinc 2 1, 3), (53, .goto (-46), 3), (56, .aload_n 0, 1), (57, .getfield 25, 3), (60, .aload_n 0, 1), (61, .getfield 21, 3), (64, .getfield 29, 3), (67, .getfield 35, 3), (70, .if_icmp .le 5, 3), (73, .iconst 0, 1)]
theorem tb_X7_find_0_ok : dck cX7_find tb_X7_find_0 = true := by decide +kernel
def tb_X7_find_1 : Tb := [(74, .ireturn, 1), (75, .aload_n 0, 1), (76, .ldc 40, 2), (78, .putfield 41, 3), (81, .aload_n 0, 1), (82, .iconst 0, 1), (83, .iconst 0, 1), (84, .iconst 0, 1), (85, .invokevirtual 44, 3), (88, .iconst 1, 1), (89, .ireturn, 1)]
theorem tb_X7_find_1_ok : dck cX7_find tb_X7_find_1 = true := by decide +kernel
def tb_X7_girlFor_0 : Tb := [(0, .iconst 0, 1), (1, .istore_n 2, 1), (2, .iload_n 2, 1), (3, .aload_n 0, 1), (4, .getfield 25, 3), (7, .if_icmp .ge 32, 3), (10, .iload_n 2, 1), (11, .bipush 6, 2), (13, .if_icmp .ge 26, 3), (16, .aload_n 0, 1), (17, .getfield 9, 3), (20, .iload_n 2, 1), (21, .iaload, 1), (22, .iload_n 1, 1), (23, .if_icmp .ne 10, 3), (26, .aload_n 0, 1), (27, .getfield 18, 3), (30, .iload_n 2, 1), (31, .iaload, 1), (32, .ireturn, 1), (33, .iinc 2 1, 3), (36, .goto (-34), 3), (39, .iconst (-1), 1), (40, .ireturn, 1)]
theorem tb_X7_girlFor_0_ok : dck cX7_girlFor tb_X7_girlFor_0 = true := by decide +kernel
def tb_X11_sent_0 : Tb := [(0, .iload_n 1, 1), (1, .ifCond .lt 24, 3), (4, .iload_n 1, 1), (5, .aload_n 0, 1), (6, .getfield 19, 3), (9, .invokevirtual 128, 3), (12, .iushr, 1), (13, .ifCond .ne 12, 3), (16, .iload_n 1, 1), (17, .invokestatic 296, 3), (20, .bipush 6, 2), (22, .if_icmp .le 11, 3), (25, .new 96, 3), (28, .dup, 1), (29, .invokespecial 98, 3), (32, .athrow, 1), (33, .iload_n 2, 1), (34, .iconst (-1), 1), (35, .if_icmp .eq 24, 3), (38, .aload_n 0, 1), (39, .iload_n 2, 1), (40, .invokevirtual 179, 3), (43, .iload_n 1, 1), (44, .iload_n 2, 1), (45, .ishr, 1), (46, .iconst 1, 1), (47, .iand, 1), (48, .ifCond .ne 11, 3), (51, .new 176, 3), (54, .dup, 1), (55, .invokespecial 178, 3), (58, .athrow, 1), (59, .aload_n 0, 1), (60, .getfield 59, 3), (63, .iload_n 1, 1), (64, .invokevirtual 301, 3), (67, .ifCond .ne 6, 3), (70, .bipush (-2), 2), (72, .ireturn, 1), (73, .iload_n 2, 1)]
theorem tb_X11_sent_0_ok : dck cX11_sent tb_X11_sent_0 = true := by decide +kernel
def tb_X11_sent_1 : Tb := [(74, .iconst (-1), 1), (75, .if_icmp .ne 13, 3), (78, .aload_n 0, 1), (79, .getfield 59, 3), (82, .getfield 304, 3), (85, .goto 11, 3), (88, .aload_n 0, 1), (89, .getfield 59, 3), (92, .iload_n 2, 1), (93, .invokevirtual 307, 3), (96, .ireturn, 1)]
theorem tb_X11_sent_1_ok : dck cX11_sent tb_X11_sent_1 = true := by decide +kernel
def tb_X8_rowBlue_0 : Tb := [(0, .iconst 0, 1), (1, .istore_n 2, 1), (2, .iconst 0, 1), (3, .istore_n 3, 1), (4, .iload_n 3, 1), (5, .aload_n 0, 1), (6, .getfield 32, 3), (9, .invokevirtual 147, 3), (12, .if_icmp .ge 29, 3), (15, .aload_n 0, 1), (16, .getfield 32, 3), (19, .iload_n 3, 1), (20, .invokevirtual 160, 3), (23, .iload_n 1, 1), (24, .if_icmp .ne 11, 3), (27, .iload_n 2, 1), (28, .aload_n 0, 1), (29, .iload_n 3, 1), (30, .invokevirtual 118, 3), (33, .iadd, 1), (34, .istore_n 2, 1), (35, .iinc 3 1, 3), (38, .goto (-34), 3), (41, .iload_n 2, 1), (42, .ireturn, 1)]
theorem tb_X8_rowBlue_0_ok : dck cX8_rowBlue tb_X8_rowBlue_0 = true := by decide +kernel
def tb_X11_band_0 : Tb := [(0, .aload_n 0, 1), (1, .iload_n 1, 1), (2, .iconst 0, 1), (3, .bipush 40, 2), (5, .invokevirtual 248, 3), (8, .aload_n 0, 1), (9, .iload_n 1, 1), (10, .invokevirtual 252, 3), (13, .iconst 0, 1), (14, .istore_n 2, 1), (15, .iconst 1, 1), (16, .istore_n 3, 1), (17, .iload_n 3, 1), (18, .aload_n 0, 1), (19, .getfield 19, 3), (22, .getfield 270, 3), (25, .if_icmp .ge 30, 3), (28, .aload_n 0, 1), (29, .getfield 47, 3), (32, .iload_n 3, 1), (33, .invokevirtual 273, 3), (36, .aload_n 0, 1), (37, .getfield 47, 3), (40, .iload_n 2, 1), (41, .invokevirtual 273, 3), (44, .if_icmp .le 5, 3), (47, .iload_n 3, 1), (48, .istore_n 2, 1), (49, .iinc 3 1, 3), (52, .goto (-35), 3), (55, .iload_n 2, 1), (56, .ireturn, 1)]
theorem tb_X11_band_0_ok : dck cX11_band tb_X11_band_0 = true := by decide +kernel
def tb_X11_steps_0 : Tb := [(0, .aload_n 0, 1), (1, .iload_n 1, 1), (2, .invokevirtual 195, 3), (5, .aload_n 0, 1), (6, .iload_n 2, 1), (7, .invokevirtual 179, 3), (10, .aload_n 0, 1), (11, .getfield 19, 3), (14, .aload_n 0, 1), (15, .getfield 37, 3), (18, .getfield 53, 3), (21, .iload_n 1, 1), (22, .invokevirtual 201, 3), (25, .iload_n 2, 1), (26, .invokevirtual 286, 3), (29, .ireturn, 1)]
theorem tb_X11_steps_0_ok : dck cX11_steps tb_X11_steps_0 = true := by decide +kernel
def tb_X11_nearest_0 : Tb := [(0, .aload_n 0, 1), (1, .iload_n 1, 1), (2, .invokevirtual 179, 3), (5, .iconst (-1), 1), (6, .istore_n 2, 1), (7, .ldc_w 289, 3), (10, .istore_n 3, 1), (11, .iconst 0, 1), (12, .istore 4, 2), (14, .iload 4, 2), (16, .aload_n 0, 1), (17, .getfield 19, 3), (20, .getfield 134, 3), (23, .if_icmp .ge 43, 3), (26, .aload_n 0, 1), (27, .getfield 19, 3), (30, .aload_n 0, 1), (31, .getfield 37, 3), (34, .getfield 53, 3), (37, .iload 4, 2), (39, .invokevirtual 201, 3), (42, .iload_n 1, 1), (43, .invokevirtual 286, 3), (46, .istore 5, 2), (48, .iload 5, 2), (50, .iload_n 3, 1), (51, .if_icmp .ge 9, 3), (54, .iload 5, 2), (56, .istore_n 3, 1), (57, .iload 4, 2), (59, .istore_n 2, 1), (60, .iinc 4 1, 3), (63, .goto (-49), 3), (66, .iload_n 2, 1), (67, .ireturn, 1)]
theorem tb_X11_nearest_0_ok : dck cX11_nearest tb_X11_nearest_0 = true := by decide +kernel
def tb_X11_missed_0 : Tb := [(0, .aload_n 0, 1), (1, .iload_n 1, 1), (2, .invokevirtual 195, 3), (5, .aload_n 0, 1), (6, .iload_n 1, 1), (7, .iconst 1, 1), (8, .invokevirtual 290, 3), (11, .aload_n 0, 1), (12, .getfield 47, 3), (15, .invokevirtual 158, 3), (18, .istore_n 2, 1), (19, .aload_n 0, 1), (20, .iload_n 1, 1), (21, .iconst 0, 1), (22, .invokevirtual 290, 3), (25, .aload_n 0, 1), (26, .getfield 47, 3), (29, .invokevirtual 158, 3), (32, .iload_n 2, 1), (33, .isub, 1), (34, .ireturn, 1)]
theorem tb_X11_missed_0_ok : dck cX11_missed tb_X11_missed_0 = true := by decide +kernel
def tb_X4_addSeen_0 : Tb := [(0, .aload_n 0, 1), (1, .getfield 47, 3), (4, .ifCond .lt 12, 3), (7, .aload_n 0, 1), (8, .getfield 47, 3), (11, .bipush 8, 2), (13, .if_icmp .lt 5, 3), (16, .iconst 0, 1), (17, .ireturn, 1), (18, .aload_n 0, 1), (19, .getfield 18, 3), (22, .aload_n 0, 1), (23, .getfield 47, 3), (26, .iload_n 1, 1), (27, .iastore, 1), (28, .aload_n 0, 1), (29, .getfield 22, 3), (32, .aload_n 0, 1), (33, .getfield 47, 3), (36, .iload_n 2, 1), (37, .iastore, 1), (38, .aload_n 0, 1), (39, .getfield 25, 3), (42, .aload_n 0, 1), (43, .getfield 47, 3), (46, .iload_n 3, 1), (47, .iastore, 1), (48, .aload_n 0, 1), (49, .dup, 1), (50, .getfield 47, 3), (53, .iconst 1, 1), (54, .iadd, 1), (55, .putfield 47, 3), (58, .iconst 1, 1), (59, .ireturn, 1)]
theorem tb_X4_addSeen_0_ok : dck cX4_addSeen tb_X4_addSeen_0 = true := by decide +kernel
def tb_X11_see_0 : Tb := [(0, .aload_n 0, 1), (1, .iload_n 1, 1), (2, .invokevirtual 179, 3), (5, .iload_n 2, 1), (6, .ifCond .lt 32, 3), (9, .iload_n 2, 1), (10, .bipush 20, 2), (12, .if_icmp .gt 26, 3), (15, .iload_n 3, 1), (16, .ifCond .lt 22, 3), (19, .iload_n 3, 1), (20, .bipush 99, 2), (22, .if_icmp .gt 16, 3), (25, .aload_n 0, 1), (26, .getfield 37, 3), (29, .iload_n 1, 1), (30, .iload_n 2, 1), (31, .iload_n 3, 1), (32, .invokevirtual 310, 3), (35, .ifCond .ne 13, 3), (38, .aload_n 0, 1), (39, .getfield 37, 3), (42, .iconst 2, 1), (43, .invokevirtual 109, 3), (46, .iconst (-1), 1), (47, .ireturn, 1), (48, .aload_n 0, 1), (49, .getfield 37, 3), (52, .getfield 170, 3), (55, .ireturn, 1)]
theorem tb_X11_see_0_ok : dck cX11_see tb_X11_see_0 = true := by decide +kernel
def tb_X4_lastSeenDay_0 : Tb := [(0, .iconst 0, 1), (1, .istore_n 1, 1), (2, .iconst 0, 1), (3, .istore_n 2, 1), (4, .iload_n 2, 1), (5, .aload_n 0, 1), (6, .getfield 47, 3), (9, .if_icmp .ge 26, 3), (12, .iload_n 2, 1), (13, .bipush 8, 2), (15, .if_icmp .ge 20, 3), (18, .iload_n 1, 1), (19, .aload_n 0, 1), (20, .getfield 22, 3), (23, .iload_n 2, 1), (24, .iaload, 1), (25, .invokestatic 63, 3), (28, .istore_n 1, 1), (29, .iinc 2 1, 3), (32, .goto (-28), 3), (35, .iload_n 1, 1), (36, .ireturn, 1)]
theorem tb_X4_lastSeenDay_0_ok : dck cX4_lastSeenDay tb_X4_lastSeenDay_0 = true := by decide +kernel
def tb_X4_fitsSeen_0 : Tb := [(0, .iconst 0, 1), (1, .istore_n 3, 1), (2, .iload_n 3, 1), (3, .aload_n 0, 1), (4, .getfield 47, 3), (7, .if_icmp .ge 46, 3), (10, .iload_n 3, 1), (11, .bipush 8, 2), (13, .if_icmp .ge 40, 3), (16, .aload_n 0, 1), (17, .getfield 22, 3), (20, .iload_n 3, 1), (21, .iaload, 1), (22, .iload_n 2, 1), (23, .if_icmp .ne 24, 3), (26, .aload_n 1, 1), (27, .aload_n 0, 1), (28, .getfield 18, 3), (31, .iload_n 3, 1), (32, .iaload, 1), (33, .invokevirtual 69, 3), (36, .aload_n 0, 1), (37, .getfield 25, 3), (40, .iload_n 3, 1), (41, .iaload, 1), (42, .if_icmp .eq 5, 3), (45, .iconst 0, 1), (46, .ireturn, 1), (47, .iinc 3 1, 3), (50, .goto (-48), 3), (53, .iconst 1, 1), (54, .ireturn, 1)]
theorem tb_X4_fitsSeen_0_ok : dck cX4_fitsSeen tb_X4_fitsSeen_0 = true := by decide +kernel
def tb_X11_wouldFit_0 : Tb := [(0, .aload_n 0, 1), (1, .getfield 47, 3), (4, .aload_n 0, 1), (5, .getfield 37, 3), (8, .getfield 53, 3), (11, .invokevirtual 343, 3), (14, .aload_n 0, 1), (15, .getfield 47, 3), (18, .iload_n 1, 1), (19, .iload_n 2, 1), (20, .invokevirtual 345, 3), (23, .aload_n 0, 1), (24, .getfield 37, 3), (27, .invokevirtual 348, 3), (30, .istore_n 3, 1), (31, .iconst 0, 1), (32, .istore 4, 2), (34, .iload 4, 2), (36, .iload_n 3, 1), (37, .if_icmp .gt 40, 3), (40, .aload_n 0, 1), (41, .getfield 37, 3), (44, .aload_n 0, 1), (45, .getfield 47, 3), (48, .iload 4, 2), (50, .invokevirtual 351, 3), (53, .ifCond .ne 5, 3), (56, .iconst 0, 1), (57, .ireturn, 1), (58, .iload 4, 2), (60, .iload_n 3, 1), (61, .if_icmp .ge 10, 3), (64, .aload_n 0, 1), (65, .getfield 47, 3), (68, .invokevirtual 221, 3), (71, .iinc 4 1, 3), (74, .goto (-40), 3), (77, .iconst 1, 1), (78, .ireturn, 1)]
theorem tb_X11_wouldFit_0_ok : dck cX11_wouldFit tb_X11_wouldFit_0 = true := by decide +kernel
def tb_X11_skilled_0 : Tb := [(0, .aload_n 0, 1), (1, .iload_n 1, 1), (2, .iconst 2, 1), (3, .invokevirtual 255, 3), (6, .iload_n 1, 1), (7, .iconst 2, 1), (8, .if_icmp .ne 18, 3), (11, .aload_n 0, 1), (12, .iconst (-1), 1), (13, .iconst 0, 1), (14, .invokevirtual 314, 3), (17, .ifCond .eq 7, 3), (20, .iconst 1, 1), (21, .goto 4, 3), (24, .iconst 0, 1), (25, .ireturn, 1), (26, .iconst 0, 1), (27, .istore_n 2, 1), (28, .iconst (-1), 1), (29, .istore_n 3, 1), (30, .iconst 0, 1), (31, .istore 4, 2), (33, .iload 4, 2), (35, .aload_n 0, 1), (36, .getfield 19, 3), (39, .getfield 134, 3), (42, .if_icmp .ge 69, 3), (45, .iconst 0, 1), (46, .istore 5, 2), (48, .iload 5, 2), (50, .bipush 9, 2), (52, .if_icmp .gt 53, 3), (55, .iload 5, 2), (57, .aload_n 0, 1), (58, .getfield 37, 3), (61, .getfield 53, 3), (64, .iload 4, 2), (66, .invokevirtual 198, 3), (69, .if_icmp .eq 30, 3), (72, .aload_n 0, 1)]
theorem tb_X11_skilled_0_ok : dck cX11_skilled tb_X11_skilled_0 = true := by decide +kernel
def tb_X11_skilled_1 : Tb := [(73, .iload 4, 2), (75, .iload 5, 2), (77, .invokevirtual 314, 3), (80, .ifCond .eq 19, 3), (83, .iload_n 2, 1), (84, .ifCond .ne 12, 3), (87, .bipush 10, 2), (89, .iload 4, 2), (91, .imul, 1), (92, .iload 5, 2), (94, .iadd, 1), (95, .istore_n 3, 1), (96, .iinc 2 1, 3), (99, .iinc 5 1, 3), (102, .goto (-54), 3), (105, .iinc 4 1, 3), (108, .goto (-75), 3), (111, .iload_n 1, 1), (112, .ifCond .ne 7, 3), (115, .iload_n 2, 1), (116, .goto 4, 3), (119, .iload_n 3, 1), (120, .ireturn, 1)]
theorem tb_X11_skilled_1_ok : dck cX11_skilled tb_X11_skilled_1 = true := by decide +kernel
def tb_X11_clearBlues_0 : Tb := [(0, .iconst 0, 1), (1, .istore_n 1, 1), (2, .iload_n 1, 1), (3, .bipush 30, 2), (5, .if_icmp .ge 23, 3), (8, .aload_n 0, 1), (9, .getfield 70, 3), (12, .iload_n 1, 1), (13, .lconst 0, 1), (14, .lastore, 1), (15, .aload_n 0, 1), (16, .getfield 74, 3), (19, .iload_n 1, 1), (20, .lconst 0, 1), (21, .lastore, 1), (22, .iinc 1 1, 3), (25, .goto (-23), 3), (28, .return_, 1)]
theorem tb_X11_clearBlues_0_ok : dck cX11_clearBlues tb_X11_clearBlues_0 = true := by decide +kernel
def tb_X11_gatherBlues_0 : Tb := [(0, .aload_n 0, 1), (1, .getfield 47, 3), (4, .aload_n 0, 1), (5, .getfield 37, 3), (8, .getfield 53, 3), (11, .invokevirtual 343, 3), (14, .aload_n 0, 1), (15, .getfield 47, 3), (18, .iload_n 1, 1), (19, .iload_n 2, 1), (20, .invokevirtual 345, 3), (23, .iconst 0, 1), (24, .istore_n 3, 1), (25, .iload_n 3, 1), (26, .iconst 5, 1), (27, .if_icmp .ge 16, 3), (30, .aload_n 0, 1), (31, .getfield 47, 3), (34, .invokevirtual 221, 3), (37, .iinc 3 1, 3), (40, .goto (-15), 3), (43, .iconst 0, 1), (44, .istore_n 3, 1), (45, .iload_n 3, 1), (46, .bipush 30, 2), (48, .if_icmp .ge 58, 3), (51, .aload_n 0, 1), (52, .getfield 47, 3), (55, .iload_n 3, 1), (56, .invokevirtual 182, 3), (59, .istore 4, 2), (61, .iload 4, 2), (63, .bipush 64, 2), (65, .if_icmp .ge 19, 3), (68, .aload_n 0, 1), (69, .getfield 70, 3), (72, .iload_n 3, 1), (73, .dup2, 1), (74, .laload, 1), (75, .lconst 1, 1)]
theorem tb_X11_gatherBlues_0_ok : dck cX11_gatherBlues tb_X11_gatherBlues_0 = true := by decide +kernel
def tb_X11_gatherBlues_1 : Tb := [(76, .iload 4, 2), (78, .lshl, 1), (79, .lor, 1), (80, .lastore, 1), (81, .goto 19, 3), (84, .aload_n 0, 1), (85, .getfield 74, 3), (88, .iload_n 3, 1), (89, .dup2, 1), (90, .laload, 1), (91, .lconst 1, 1), (92, .iload 4, 2), (94, .bipush 64, 2), (96, .isub, 1), (97, .lshl, 1), (98, .lor, 1), (99, .lastore, 1), (100, .iinc 3 1, 3), (103, .goto (-58), 3), (106, .return_, 1)]
theorem tb_X11_gatherBlues_1_ok : dck cX11_gatherBlues tb_X11_gatherBlues_1 = true := by decide +kernel
def tb_J13_bitCount_95d88_0 : Tb := [(0, .lload_n 0, 1), (1, .lload_n 0, 1), (2, .iconst 1, 1), (3, .lushr, 1), (4, .ldc2_w 314, 3), (7, .land, 1), (8, .lsub, 1), (9, .lstore_n 0, 1), (10, .lload_n 0, 1), (11, .ldc2_w 316, 3), (14, .land, 1), (15, .lload_n 0, 1), (16, .iconst 2, 1), (17, .lushr, 1), (18, .ldc2_w 316, 3), (21, .land, 1), (22, .ladd, 1), (23, .lstore_n 0, 1), (24, .lload_n 0, 1), (25, .lload_n 0, 1), (26, .iconst 4, 1), (27, .lushr, 1), (28, .ladd, 1), (29, .ldc2_w 318, 3), (32, .land, 1), (33, .lstore_n 0, 1), (34, .lload_n 0, 1), (35, .lload_n 0, 1), (36, .bipush 8, 2), (38, .lushr, 1), (39, .ladd, 1), (40, .lstore_n 0, 1), (41, .lload_n 0, 1), (42, .lload_n 0, 1), (43, .bipush 16, 2), (45, .lushr, 1), (46, .ladd, 1), (47, .lstore_n 0, 1), (48, .lload_n 0, 1), (49, .lload_n 0, 1)]
theorem tb_J13_bitCount_95d88_0_ok : dck cJ13_bitCount_95d88 tb_J13_bitCount_95d88_0 = true := by decide +kernel
def tb_J13_bitCount_95d88_1 : Tb := [(50, .bipush 32, 2), (52, .lushr, 1), (53, .ladd, 1), (54, .lstore_n 0, 1), (55, .lload_n 0, 1), (56, .l2i, 1), (57, .bipush 127, 2), (59, .iand, 1), (60, .ireturn, 1)]
theorem tb_J13_bitCount_95d88_1_ok : dck cJ13_bitCount_95d88 tb_J13_bitCount_95d88_1 = true := by decide +kernel
def tb_X11_unlikeBlues_0 : Tb := [(0, .iload_n 1, 1), (1, .ifCond .lt 9, 3), (4, .iload_n 1, 1), (5, .bipush 30, 2), (7, .if_icmp .lt 5, 3), (10, .iconst 0, 1), (11, .ireturn, 1), (12, .aload_n 0, 1), (13, .getfield 70, 3), (16, .iload_n 1, 1), (17, .laload, 1), (18, .invokestatic 355, 3), (21, .aload_n 0, 1), (22, .getfield 74, 3), (25, .iload_n 1, 1), (26, .laload, 1), (27, .invokestatic 355, 3), (30, .iadd, 1), (31, .ireturn, 1)]
theorem tb_X11_unlikeBlues_0_ok : dck cX11_unlikeBlues tb_X11_unlikeBlues_0 = true := by decide +kernel
def tb_X11_look_0 : Tb := [(0, .aload_n 0, 1), (1, .iload_n 1, 1), (2, .iconst 1, 1), (3, .invokevirtual 255, 3), (6, .aload_n 0, 1), (7, .invokevirtual 318, 3), (10, .iconst 0, 1), (11, .istore_n 2, 1), (12, .iload_n 2, 1), (13, .aload_n 0, 1), (14, .getfield 19, 3), (17, .getfield 134, 3), (20, .if_icmp .ge 53, 3), (23, .iconst 0, 1), (24, .istore_n 3, 1), (25, .iload_n 3, 1), (26, .bipush 9, 2), (28, .if_icmp .gt 39, 3), (31, .iload_n 3, 1), (32, .aload_n 0, 1), (33, .getfield 37, 3), (36, .getfield 53, 3), (39, .iload_n 2, 1), (40, .invokevirtual 198, 3), (43, .if_icmp .eq 18, 3), (46, .aload_n 0, 1), (47, .iload_n 2, 1), (48, .iload_n 3, 1), (49, .invokevirtual 314, 3), (52, .ifCond .eq 9, 3), (55, .aload_n 0, 1), (56, .iload_n 2, 1), (57, .iload_n 3, 1), (58, .invokevirtual 321, 3), (61, .iinc 3 1, 3), (64, .goto (-39), 3), (67, .iinc 2 1, 3), (70, .goto (-58), 3), (73, .iconst (-1), 1), (74, .istore_n 2, 1)]
theorem tb_X11_look_0_ok : dck cX11_look tb_X11_look_0 = true := by decide +kernel
def tb_X11_look_1 : Tb := [(75, .iconst 0, 1), (76, .istore_n 3, 1), (77, .iconst 0, 1), (78, .istore 4, 2), (80, .iload 4, 2), (82, .aload_n 0, 1), (83, .getfield 19, 3), (86, .invokevirtual 128, 3), (89, .if_icmp .ge 29, 3), (92, .aload_n 0, 1), (93, .iload 4, 2), (95, .invokevirtual 324, 3), (98, .istore 5, 2), (100, .iload 5, 2), (102, .iload_n 3, 1), (103, .if_icmp .le 9, 3), (106, .iload 5, 2), (108, .istore_n 3, 1), (109, .iload 4, 2), (111, .istore_n 2, 1), (112, .iinc 4 1, 3), (115, .goto (-35), 3), (118, .iload_n 1, 1), (119, .ifCond .ne 7, 3), (122, .iload_n 2, 1), (123, .goto 4, 3), (126, .iload_n 3, 1), (127, .ireturn, 1)]
theorem tb_X11_look_1_ok : dck cX11_look tb_X11_look_1 = true := by decide +kernel
def tb_X11_playAll_0 : Tb := [(0, .iconst 0, 1), (1, .istore_n 3, 1), (2, .iload_n 3, 1), (3, .iconst 1, 1), (4, .if_icmp .gt 164, 3), (7, .iconst 0, 1), (8, .istore 4, 2), (10, .iload 4, 2), (12, .iconst 1, 1), (13, .if_icmp .gt 149, 3), (16, .aload_n 0, 1), (17, .getfield 47, 3), (20, .aload_n 0, 1), (21, .getfield 37, 3), (24, .getfield 53, 3), (27, .invokevirtual 343, 3), (30, .aload_n 0, 1), (31, .getfield 47, 3), (34, .iload_n 1, 1), (35, .iload_n 3, 1), (36, .ifCond .ne 7, 3), (39, .iconst 1, 1), (40, .goto 4, 3), (43, .iconst 0, 1), (44, .invokevirtual 227, 3), (47, .aload_n 0, 1), (48, .getfield 47, 3), (51, .iload_n 2, 1), (52, .iload 4, 2), (54, .ifCond .ne 7, 3), (57, .iconst 1, 1), (58, .goto 4, 3), (61, .iconst 0, 1), (62, .invokevirtual 227, 3), (65, .aload_n 0, 1), (66, .getfield 47, 3), (69, .invokevirtual 221, 3), (72, .bipush 10, 2), (74, .aload_n 0, 1), (75, .getfield 47, 3)]
theorem tb_X11_playAll_0_ok : dck cX11_playAll tb_X11_playAll_0 = true := by decide +kernel
def tb_X11_playAll_1 : Tb := [(78, .getfield 267, 3), (81, .invokestatic 296, 3), (84, .imul, 1), (85, .istore 5, 2), (87, .aload_n 0, 1), (88, .getfield 77, 3), (91, .iconst 2, 1), (92, .iload_n 3, 1), (93, .imul, 1), (94, .iload 4, 2), (96, .iadd, 1), (97, .aload_n 0, 1), (98, .getfield 47, 3), (101, .aload_n 0, 1), (102, .getfield 47, 3), (105, .iload_n 1, 1), (106, .invokevirtual 201, 3), (109, .invokevirtual 182, 3), (112, .iload 5, 2), (114, .isub, 1), (115, .iconst 2, 1), (116, .iload_n 3, 1), (117, .imul, 1), (118, .isub, 1), (119, .iastore, 1), (120, .aload_n 0, 1), (121, .getfield 77, 3), (124, .iconst 4, 1), (125, .iconst 2, 1), (126, .iload_n 3, 1), (127, .imul, 1), (128, .iadd, 1), (129, .iload 4, 2), (131, .iadd, 1), (132, .aload_n 0, 1), (133, .getfield 47, 3), (136, .aload_n 0, 1), (137, .getfield 47, 3), (140, .iload_n 2, 1), (141, .invokevirtual 201, 3)]
theorem tb_X11_playAll_1_ok : dck cX11_playAll tb_X11_playAll_1 = true := by decide +kernel
def tb_X11_playAll_2 : Tb := [(144, .invokevirtual 182, 3), (147, .iload 5, 2), (149, .isub, 1), (150, .iconst 2, 1), (151, .iload 4, 2), (153, .imul, 1), (154, .isub, 1), (155, .iastore, 1), (156, .iinc 4 1, 3), (159, .goto (-149), 3), (162, .iinc 3 1, 3), (165, .goto (-163), 3), (168, .return_, 1)]
theorem tb_X11_playAll_2_ok : dck cX11_playAll tb_X11_playAll_2 = true := by decide +kernel
def tb_X11_gainAt_0 : Tb := [(0, .iconst 4, 1), (1, .iload_n 1, 1), (2, .imul, 1), (3, .iconst 2, 1), (4, .iload_n 2, 1), (5, .imul, 1), (6, .iadd, 1), (7, .iload_n 3, 1), (8, .iadd, 1), (9, .istore 4, 2), (11, .iload 4, 2), (13, .ifCond .lt 23, 3), (16, .iload 4, 2), (18, .aload_n 0, 1), (19, .getfield 77, 3), (22, .arraylength, 1), (23, .if_icmp .ge 13, 3), (26, .aload_n 0, 1), (27, .getfield 77, 3), (30, .iload 4, 2), (32, .iaload, 1), (33, .goto 4, 3), (36, .iconst 0, 1), (37, .ireturn, 1)]
theorem tb_X11_gainAt_0_ok : dck cX11_gainAt tb_X11_gainAt_0 = true := by decide +kernel
def tb_X11_game_0 : Tb := [(0, .aload_n 0, 1), (1, .iload_n 1, 1), (2, .invokevirtual 195, 3), (5, .aload_n 0, 1), (6, .iload_n 2, 1), (7, .invokevirtual 195, 3), (10, .aload_n 0, 1), (11, .iload_n 3, 1), (12, .iconst 1, 1), (13, .invokevirtual 255, 3), (16, .iload_n 1, 1), (17, .iload_n 2, 1), (18, .if_icmp .ne 11, 3), (21, .new 96, 3), (24, .dup, 1), (25, .invokespecial 98, 3), (28, .athrow, 1), (29, .aload_n 0, 1), (30, .iload_n 1, 1), (31, .iload_n 2, 1), (32, .invokevirtual 327, 3), (35, .iconst 0, 1), (36, .istore 4, 2), (38, .iconst (-1), 1), (39, .istore 5, 2), (41, .iconst 0, 1), (42, .istore 6, 2), (44, .iload 6, 2), (46, .iconst 1, 1), (47, .if_icmp .gt 100, 3), (50, .iconst 0, 1), (51, .istore 7, 2), (53, .iload 7, 2), (55, .iconst 1, 1), (56, .if_icmp .gt 85, 3), (59, .aload_n 0, 1), (60, .iconst 0, 1), (61, .iload 6, 2), (63, .iload 7, 2), (65, .invokevirtual 330, 3)]
theorem tb_X11_game_0_ok : dck cX11_game tb_X11_game_0 = true := by decide +kernel
def tb_X11_game_1 : Tb := [(68, .aload_n 0, 1), (69, .iconst 0, 1), (70, .iconst 1, 1), (71, .iload 6, 2), (73, .isub, 1), (74, .iload 7, 2), (76, .invokevirtual 330, 3), (79, .if_icmp .lt 30, 3), (82, .aload_n 0, 1), (83, .iconst 1, 1), (84, .iload 6, 2), (86, .iload 7, 2), (88, .invokevirtual 330, 3), (91, .aload_n 0, 1), (92, .iconst 1, 1), (93, .iload 6, 2), (95, .iconst 1, 1), (96, .iload 7, 2), (98, .isub, 1), (99, .invokevirtual 330, 3), (102, .if_icmp .lt 7, 3), (105, .iconst 1, 1), (106, .goto 4, 3), (109, .iconst 0, 1), (110, .istore 8, 2), (112, .iload 8, 2), (114, .ifCond .eq 21, 3), (117, .iload 4, 2), (119, .ifCond .ne 13, 3), (122, .bipush 10, 2), (124, .iload 6, 2), (126, .imul, 1), (127, .iload 7, 2), (129, .iadd, 1), (130, .istore 5, 2), (132, .iinc 4 1, 3), (135, .iinc 7 1, 3), (138, .goto (-85), 3), (141, .iinc 6 1, 3), (144, .goto (-100), 3)]
theorem tb_X11_game_1_ok : dck cX11_game tb_X11_game_1 = true := by decide +kernel
def tb_X11_game_2 : Tb := [(147, .iload_n 3, 1), (148, .ifCond .ne 8, 3), (151, .iload 4, 2), (153, .goto 5, 3), (156, .iload 5, 2), (158, .ireturn, 1)]
theorem tb_X11_game_2_ok : dck cX11_game tb_X11_game_2 = true := by decide +kernel
def tb_X3_draw_0 : Tb := [(0, .aload_n 0, 1), (1, .aload_n 0, 1), (2, .getfield 7, 3), (5, .ldc 13, 2), (7, .imul, 1), (8, .sipush 12345, 3), (11, .iadd, 1), (12, .putfield 7, 3), (15, .aload_n 0, 1), (16, .getfield 7, 3), (19, .bipush 16, 2), (21, .iushr, 1), (22, .sipush 32767, 3), (25, .iand, 1), (26, .istore_n 2, 1), (27, .iload_n 1, 1), (28, .ifCond .le 9, 3), (31, .iload_n 2, 1), (32, .iload_n 1, 1), (33, .irem, 1), (34, .goto 4, 3), (37, .iconst 0, 1), (38, .ireturn, 1)]
theorem tb_X3_draw_0_ok : dck cX3_draw tb_X3_draw_0 = true := by decide +kernel
def tb_X11_drawAhead_0 : Tb := [(0, .aload_n 0, 1), (1, .getfield 66, 3), (4, .iconst 5, 1), (5, .invokevirtual 360, 3), (8, .tableswitch 115 0 2 #[28, 54, 104], 28), (36, .aload_n 0, 1), (37, .getfield 47, 3), (40, .aload_n 0, 1), (41, .getfield 66, 3), (44, .aload_n 0, 1), (45, .getfield 19, 3), (48, .invokevirtual 128, 3), (51, .invokevirtual 360, 3), (54, .bipush 20, 2), (56, .invokevirtual 363, 3), (59, .goto 64, 3), (62, .aload_n 0, 1), (63, .getfield 19, 3), (66, .getfield 134, 3), (69, .ifCond .le 54, 3), (72, .aload_n 0, 1), (73, .getfield 66, 3), (76, .aload_n 0, 1), (77, .getfield 19, 3), (80, .getfield 134, 3), (83, .invokevirtual 360, 3), (86, .istore_n 1, 1), (87, .aload_n 0, 1), (88, .getfield 47, 3), (91, .iload_n 1, 1), (92, .aload_n 0, 1), (93, .getfield 66, 3), (96, .aload_n 0, 1), (97, .getfield 19, 3), (100, .invokevirtual 128, 3), (103, .invokevirtual 360, 3), (106, .invokevirtual 231, 3), (109, .goto 14, 3), (112, .aload_n 0, 1), (113, .getfield 47, 3)]
theorem tb_X11_drawAhead_0_ok : dck cX11_drawAhead tb_X11_drawAhead_0 = true := by decide +kernel
def tb_X11_drawAhead_1 : Tb := [(116, .iconst 5, 1), (117, .invokevirtual 235, 3), (120, .goto 3, 3), (123, .return_, 1)]
theorem tb_X11_drawAhead_1_ok : dck cX11_drawAhead tb_X11_drawAhead_1 = true := by decide +kernel
def tb_X11_skies_0 : Tb := [(0, .aload_n 0, 1), (1, .iload_n 3, 1), (2, .iconst 2, 1), (3, .invokevirtual 255, 3), (6, .aload_n 0, 1), (7, .iload_n 2, 1), (8, .iconst 0, 1), (9, .bipush 40, 2), (11, .invokevirtual 248, 3), (14, .aload_n 0, 1), (15, .iconst 0, 1), (16, .invokevirtual 252, 3), (19, .aload_n 0, 1), (20, .getfield 66, 3), (23, .iload_n 1, 1), (24, .putfield 334, 3), (27, .iconst 0, 1), (28, .istore 4, 2), (30, .iload 4, 2), (32, .iload_n 2, 1), (33, .if_icmp .ge 20, 3), (36, .aload_n 0, 1), (37, .invokevirtual 337, 3), (40, .aload_n 0, 1), (41, .getfield 47, 3), (44, .invokevirtual 221, 3), (47, .iinc 4 1, 3), (50, .goto (-20), 3), (53, .iload_n 3, 1), (54, .lookupswitch 53 #[(0, 26), (1, 45)], 26), (80, .aload_n 0, 1), (81, .getfield 47, 3), (84, .getfield 149, 3), (87, .aload_n 0, 1), (88, .getfield 37, 3), (91, .getfield 53, 3), (94, .getfield 149, 3), (97, .isub, 1), (98, .ireturn, 1), (99, .aload_n 0, 1)]
theorem tb_X11_skies_0_ok : dck cX11_skies tb_X11_skies_0 = true := by decide +kernel
def tb_X11_skies_1 : Tb := [(100, .getfield 47, 3), (103, .invokevirtual 158, 3), (106, .ireturn, 1), (107, .aload_n 0, 1), (108, .getfield 47, 3), (111, .getfield 140, 3), (114, .ireturn, 1)]
theorem tb_X11_skies_1_ok : dck cX11_skies tb_X11_skies_1 = true := by decide +kernel
end
section
def tb_X12_begin_0 : Tb := [(0, .aload_n 0, 1), (1, .getfield 40, 3), (4, .iload_n 1, 1), (5, .iconst 3, 1), (6, .iastore, 1), (7, .aload_n 0, 1), (8, .getfield 40, 3), (11, .iload_n 1, 1), (12, .iconst 1, 1), (13, .iadd, 1), (14, .iconst 3, 1), (15, .iastore, 1), (16, .aload_n 0, 1), (17, .getfield 40, 3), (20, .iload_n 1, 1), (21, .iconst 2, 1), (22, .iadd, 1), (23, .iconst 0, 1), (24, .iastore, 1), (25, .aload_n 0, 1), (26, .getfield 40, 3), (29, .iload_n 1, 1), (30, .iconst 3, 1), (31, .iadd, 1), (32, .bipush 20, 2), (34, .iastore, 1), (35, .aload_n 0, 1), (36, .getfield 40, 3), (39, .iload_n 1, 1), (40, .iconst 4, 1), (41, .iadd, 1), (42, .iconst 2, 1), (43, .iastore, 1), (44, .aload_n 0, 1), (45, .getfield 40, 3), (48, .iload_n 1, 1), (49, .iconst 5, 1), (50, .iadd, 1), (51, .bipush 60, 2), (53, .iastore, 1)]
theorem tb_X12_begin_0_ok : dck cX12_begin tb_X12_begin_0 = true := by decide +kernel
def tb_X12_begin_1 : Tb := [(54, .bipush 6, 2), (56, .istore_n 2, 1), (57, .iload_n 2, 1), (58, .bipush 9, 2), (60, .if_icmp .ge 18, 3), (63, .aload_n 0, 1), (64, .getfield 40, 3), (67, .iload_n 1, 1), (68, .iload_n 2, 1), (69, .iadd, 1), (70, .iconst 0, 1), (71, .iastore, 1), (72, .iinc 2 1, 3), (75, .goto (-18), 3), (78, .return_, 1)]
theorem tb_X12_begin_1_ok : dck cX12_begin tb_X12_begin_1 = true := by decide +kernel
def tb_X12_init_0 : Tb := [(0, .aload_n 0, 1), (1, .invokespecial 3, 3), (4, .aload_n 0, 1), (5, .iconst 2, 1), (6, .anewarray 9, 3), (9, .dup, 1), (10, .iconst 0, 1), (11, .ldc 11, 2), (13, .aastore, 1), (14, .dup, 1), (15, .iconst 1, 1), (16, .ldc 13, 2), (18, .aastore, 1), (19, .putfield 15, 3), (22, .aload_n 0, 1), (23, .bipush 6, 2), (25, .anewarray 9, 3), (28, .dup, 1), (29, .iconst 0, 1), (30, .ldc 19, 2), (32, .aastore, 1), (33, .dup, 1), (34, .iconst 1, 1), (35, .ldc 21, 2), (37, .aastore, 1), (38, .dup, 1), (39, .iconst 2, 1), (40, .ldc 23, 2), (42, .aastore, 1), (43, .dup, 1), (44, .iconst 3, 1), (45, .ldc 25, 2), (47, .aastore, 1), (48, .dup, 1), (49, .iconst 4, 1), (50, .ldc 27, 2), (52, .aastore, 1), (53, .dup, 1), (54, .iconst 5, 1), (55, .ldc 29, 2)]
theorem tb_X12_init_0_ok : dck cX12_init tb_X12_init_0 = true := by decide +kernel
def tb_X12_init_1 : Tb := [(57, .aastore, 1), (58, .putfield 31, 3), (61, .aload_n 0, 1), (62, .iconst 4, 1), (63, .anewarray 9, 3), (66, .dup, 1), (67, .iconst 0, 1), (68, .ldc 19, 2), (70, .aastore, 1), (71, .dup, 1), (72, .iconst 1, 1), (73, .ldc 21, 2), (75, .aastore, 1), (76, .dup, 1), (77, .iconst 2, 1), (78, .ldc 23, 2), (80, .aastore, 1), (81, .dup, 1), (82, .iconst 3, 1), (83, .ldc 25, 2), (85, .aastore, 1), (86, .putfield 34, 3), (89, .aload_n 0, 1), (90, .aload_n 0, 1), (91, .getfield 31, 3), (94, .putfield 37, 3), (97, .aload_n 0, 1), (98, .bipush 18, 2), (100, .newarray .int, 2), (102, .putfield 40, 3), (105, .aload_n 0, 1), (106, .bipush 60, 2), (108, .newarray .int, 2), (110, .putfield 44, 3), (113, .aload_n 0, 1), (114, .bipush 12, 2), (116, .newarray .int, 2), (118, .putfield 47, 3), (121, .aload_n 0, 1), (122, .bipush 12, 2)]
theorem tb_X12_init_1_ok : dck cX12_init tb_X12_init_1 = true := by decide +kernel
def tb_X12_init_2 : Tb := [(124, .newarray .int, 2), (126, .putfield 50, 3), (129, .aload_n 0, 1), (130, .bipush 12, 2), (132, .newarray .int, 2), (134, .putfield 53, 3), (137, .aload_n 0, 1), (138, .sipush 1400, 3), (141, .newarray .int, 2), (143, .putfield 56, 3), (146, .aload_n 0, 1), (147, .sipush 1400, 3), (150, .newarray .int, 2), (152, .putfield 59, 3), (155, .aload_n 0, 1), (156, .iconst 3, 1), (157, .newarray .int, 2), (159, .putfield 62, 3), (162, .aload_n 0, 1), (163, .bipush 6, 2), (165, .newarray .int, 2), (167, .putfield 65, 3), (170, .aload_n 0, 1), (171, .sipush 700, 3), (174, .newarray .int, 2), (176, .putfield 68, 3), (179, .aload_n 0, 1), (180, .iconst (-1), 1), (181, .putfield 71, 3), (184, .aload_n 0, 1), (185, .bipush 30, 2), (187, .newarray .int, 2), (189, .putfield 75, 3), (192, .aload_n 0, 1), (193, .bipush 6, 2), (195, .newarray .int, 2), (197, .putfield 77, 3), (200, .aload_n 0, 1), (201, .sipush 1640, 3), (204, .newarray .int, 2)]
theorem tb_X12_init_2_ok : dck cX12_init tb_X12_init_2 = true := by decide +kernel
def tb_X12_init_3 : Tb := [(206, .putfield 80, 3), (209, .aload_n 0, 1), (210, .bipush 6, 2), (212, .newarray .int, 2), (214, .putfield 83, 3), (217, .aload_n 0, 1), (218, .bipush 64, 2), (220, .newarray .int, 2), (222, .putfield 86, 3), (225, .aload_n 0, 1), (226, .bipush 30, 2), (228, .newarray .int, 2), (230, .putfield 89, 3), (233, .aload_n 0, 1), (234, .bipush 41, 2), (236, .newarray .int, 2), (238, .putfield 92, 3), (241, .aload_n 0, 1), (242, .bipush 30, 2), (244, .newarray .int, 2), (246, .putfield 95, 3), (249, .aload_n 0, 1), (250, .sipush 448, 3), (253, .newarray .int, 2), (255, .putfield 98, 3), (258, .aload_n 0, 1), (259, .bipush 6, 2), (261, .newarray .int, 2), (263, .putfield 101, 3), (266, .aload_n 0, 1), (267, .bipush 8, 2), (269, .newarray .int, 2), (271, .putfield 104, 3), (274, .aload_n 0, 1), (275, .bipush 8, 2), (277, .newarray .int, 2), (279, .putfield 107, 3), (282, .aload_n 0, 1), (283, .bipush 8, 2), (285, .newarray .int, 2)]
theorem tb_X12_init_3_ok : dck cX12_init tb_X12_init_3 = true := by decide +kernel
def tb_X12_init_4 : Tb := [(287, .putfield 110, 3), (290, .aload_n 0, 1), (291, .bipush 41, 2), (293, .newarray .int, 2), (295, .putfield 113, 3), (298, .aload_n 0, 1), (299, .bipush 60, 2), (301, .newarray .int, 2), (303, .putfield 116, 3), (306, .aload_n 0, 1), (307, .sipush 1800, 3), (310, .newarray .int, 2), (312, .putfield 119, 3), (315, .aload_n 0, 1), (316, .bipush 8, 2), (318, .newarray .int, 2), (320, .putfield 122, 3), (323, .aload_n 0, 1), (324, .bipush 41, 2), (326, .newarray .int, 2), (328, .putfield 125, 3), (331, .aload_n 0, 1), (332, .sipush 1640, 3), (335, .newarray .int, 2), (337, .putfield 128, 3), (340, .aload_n 0, 1), (341, .bipush 8, 2), (343, .newarray .int, 2), (345, .putfield 131, 3), (348, .aload_n 0, 1), (349, .bipush 8, 2), (351, .newarray .int, 2), (353, .putfield 134, 3), (356, .aload_n 0, 1), (357, .bipush 8, 2), (359, .newarray .int, 2), (361, .putfield 137, 3), (364, .aload_n 0, 1), (365, .iconst 3, 1), (366, .newarray .int, 2)]
theorem tb_X12_init_4_ok : dck cX12_init tb_X12_init_4 = true := by decide +kernel
def tb_X12_init_5 : Tb := [(368, .putfield 140, 3), (371, .aload_n 0, 1), (372, .iconst 0, 1), (373, .invokevirtual 143, 3), (376, .aload_n 0, 1), (377, .bipush 20, 2), (379, .putfield 147, 3), (382, .return_, 1)]
theorem tb_X12_init_5_ok : dck cX12_init tb_X12_init_5 = true := by decide +kernel
def tb_X12_thrown_0 : Tb := [(0, .aload_n 0, 1), (1, .getfield 150, 3), (4, .ireturn, 1)]
theorem tb_X12_thrown_0_ok : dck cX12_thrown tb_X12_thrown_0 = true := by decide +kernel
def tb_X12_feed_0 : Tb := [(0, .aload_n 0, 1), (1, .iconst 0, 1), (2, .putfield 150, 3), (5, .aload_n 0, 1), (6, .getfield 161, 3), (9, .bipush 20, 2), (11, .iadd, 1), (12, .sipush 700, 3), (15, .if_icmp .le 5, 3), (18, .iconst (-1), 1), (19, .ireturn, 1), (20, .iconst 0, 1), (21, .istore 6, 2), (23, .iload 6, 2), (25, .bipush 20, 2), (27, .if_icmp .ge 93, 3), (30, .iload 6, 2), (32, .iconst 4, 1), (33, .if_icmp .ge 7, 3), (36, .iload_n 1, 1), (37, .goto 39, 3), (40, .iload 6, 2), (42, .bipush 8, 2), (44, .if_icmp .ge 7, 3), (47, .iload_n 2, 1), (48, .goto 28, 3), (51, .iload 6, 2), (53, .bipush 12, 2), (55, .if_icmp .ge 7, 3), (58, .iload_n 3, 1), (59, .goto 17, 3), (62, .iload 6, 2), (64, .bipush 16, 2), (66, .if_icmp .ge 8, 3), (69, .iload 4, 2), (71, .goto 5, 3), (74, .iload 5, 2), (76, .istore 7, 2), (78, .aload_n 0, 1), (79, .getfield 68, 3)]
theorem tb_X12_feed_0_ok : dck cX12_feed tb_X12_feed_0 = true := by decide +kernel
def tb_X12_feed_1 : Tb := [(82, .aload_n 0, 1), (83, .getfield 161, 3), (86, .iload 7, 2), (88, .bipush 24, 2), (90, .bipush 8, 2), (92, .iload 6, 2), (94, .iconst 4, 1), (95, .irem, 1), (96, .imul, 1), (97, .isub, 1), (98, .ishr, 1), (99, .sipush 255, 3), (102, .iand, 1), (103, .iastore, 1), (104, .aload_n 0, 1), (105, .dup, 1), (106, .getfield 161, 3), (109, .iconst 1, 1), (110, .iadd, 1), (111, .putfield 161, 3), (114, .iinc 6 1, 3), (117, .goto (-94), 3), (120, .aload_n 0, 1), (121, .getfield 161, 3), (124, .ireturn, 1)]
theorem tb_X12_feed_1_ok : dck cX12_feed tb_X12_feed_1 = true := by decide +kernel
def tb_X12_fail_0 : Tb := [(0, .aload_n 0, 1), (1, .iload_n 1, 1), (2, .putfield 150, 3), (5, .iconst 0, 1), (6, .ireturn, 1)]
theorem tb_X12_fail_0_ok : dck cX12_fail tb_X12_fail_0 = true := by decide +kernel
def tb_X12_byteAt_0 : Tb := [(0, .iload_n 1, 1), (1, .aload_n 0, 1), (2, .getfield 164, 3), (5, .if_icmp .ge 12, 3), (8, .aload_n 0, 1), (9, .getfield 68, 3), (12, .iload_n 1, 1), (13, .iaload, 1), (14, .goto 4, 3), (17, .iconst (-1), 1), (18, .ireturn, 1)]
theorem tb_X12_byteAt_0_ok : dck cX12_byteAt tb_X12_byteAt_0 = true := by decide +kernel
def tb_X12_isLetter_0 : Tb := [(0, .iload_n 0, 1), (1, .bipush 97, 2), (3, .if_icmp .lt 13, 3), (6, .iload_n 0, 1), (7, .bipush 122, 2), (9, .if_icmp .gt 7, 3), (12, .iconst 1, 1), (13, .goto 4, 3), (16, .iconst 0, 1), (17, .ireturn, 1)]
theorem tb_X12_isLetter_0_ok : dck cX12_isLetter tb_X12_isLetter_0 = true := by decide +kernel
def tb_X12_isDigit_0 : Tb := [(0, .iload_n 0, 1), (1, .bipush 48, 2), (3, .if_icmp .lt 13, 3), (6, .iload_n 0, 1), (7, .bipush 57, 2), (9, .if_icmp .gt 7, 3), (12, .iconst 1, 1), (13, .goto 4, 3), (16, .iconst 0, 1), (17, .ireturn, 1)]
theorem tb_X12_isDigit_0_ok : dck cX12_isDigit tb_X12_isDigit_0 = true := by decide +kernel
def tb_X12_isMark_0 : Tb := [(0, .iload_n 0, 1), (1, .bipush 59, 2), (3, .if_icmp .eq 51, 3), (6, .iload_n 0, 1), (7, .bipush 40, 2), (9, .if_icmp .eq 45, 3), (12, .iload_n 0, 1), (13, .bipush 41, 2), (15, .if_icmp .eq 39, 3), (18, .iload_n 0, 1), (19, .bipush 43, 2), (21, .if_icmp .eq 33, 3), (24, .iload_n 0, 1), (25, .bipush 45, 2), (27, .if_icmp .eq 27, 3), (30, .iload_n 0, 1), (31, .bipush 42, 2), (33, .if_icmp .eq 21, 3), (36, .iload_n 0, 1), (37, .bipush 47, 2), (39, .if_icmp .eq 15, 3), (42, .iload_n 0, 1), (43, .bipush 60, 2), (45, .if_icmp .eq 9, 3), (48, .iload_n 0, 1), (49, .bipush 61, 2), (51, .if_icmp .ne 7, 3), (54, .iconst 1, 1), (55, .goto 4, 3), (58, .iconst 0, 1), (59, .ireturn, 1)]
theorem tb_X12_isMark_0_ok : dck cX12_isMark tb_X12_isMark_0 = true := by decide +kernel
def tb_X12_stepOn_0 : Tb := [(0, .aload_n 0, 1), (1, .aload_n 0, 1), (2, .getfield 167, 3), (5, .invokevirtual 170, 3), (8, .bipush 32, 2), (10, .if_icmp .eq 16, 3), (13, .aload_n 0, 1), (14, .aload_n 0, 1), (15, .getfield 167, 3), (18, .invokevirtual 170, 3), (21, .bipush 10, 2), (23, .if_icmp .ne 16, 3), (26, .aload_n 0, 1), (27, .dup, 1), (28, .getfield 167, 3), (31, .iconst 1, 1), (32, .iadd, 1), (33, .putfield 167, 3), (36, .goto (-36), 3), (39, .aload_n 0, 1), (40, .aload_n 0, 1), (41, .getfield 167, 3), (44, .putfield 174, 3), (47, .aload_n 0, 1), (48, .aload_n 0, 1), (49, .getfield 167, 3), (52, .invokevirtual 170, 3), (55, .istore_n 1, 1), (56, .iload_n 1, 1), (57, .iconst (-1), 1), (58, .if_icmp .ne 11, 3), (61, .aload_n 0, 1), (62, .iconst 0, 1), (63, .putfield 177, 3), (66, .goto 146, 3), (69, .iload_n 1, 1), (70, .invokestatic 180, 3), (73, .ifCond .eq 38, 3), (76, .aload_n 0, 1), (77, .aload_n 0, 1)]
theorem tb_X12_stepOn_0_ok : dck cX12_stepOn tb_X12_stepOn_0 = true := by decide +kernel
def tb_X12_stepOn_1 : Tb := [(78, .getfield 167, 3), (81, .invokevirtual 170, 3), (84, .invokestatic 180, 3), (87, .ifCond .eq 16, 3), (90, .aload_n 0, 1), (91, .dup, 1), (92, .getfield 167, 3), (95, .iconst 1, 1), (96, .iadd, 1), (97, .putfield 167, 3), (100, .goto (-24), 3), (103, .aload_n 0, 1), (104, .iconst 1, 1), (105, .putfield 177, 3), (108, .goto 104, 3), (111, .iload_n 1, 1), (112, .invokestatic 184, 3), (115, .ifCond .eq 71, 3), (118, .aload_n 0, 1), (119, .iconst 0, 1), (120, .putfield 187, 3), (123, .aload_n 0, 1), (124, .aload_n 0, 1), (125, .getfield 167, 3), (128, .invokevirtual 170, 3), (131, .invokestatic 184, 3), (134, .ifCond .eq 44, 3), (137, .aload_n 0, 1), (138, .ldc 190, 2), (140, .bipush 10, 2), (142, .aload_n 0, 1), (143, .getfield 187, 3), (146, .imul, 1), (147, .aload_n 0, 1), (148, .aload_n 0, 1), (149, .getfield 167, 3), (152, .invokevirtual 170, 3), (155, .iadd, 1), (156, .bipush 48, 2), (158, .isub, 1)]
theorem tb_X12_stepOn_1_ok : dck cX12_stepOn tb_X12_stepOn_1 = true := by decide +kernel
def tb_X12_stepOn_2 : Tb := [(159, .invokestatic 191, 3), (162, .putfield 187, 3), (165, .aload_n 0, 1), (166, .dup, 1), (167, .getfield 167, 3), (170, .iconst 1, 1), (171, .iadd, 1), (172, .putfield 167, 3), (175, .goto (-52), 3), (178, .aload_n 0, 1), (179, .iconst 2, 1), (180, .putfield 177, 3), (183, .goto 29, 3), (186, .aload_n 0, 1), (187, .dup, 1), (188, .getfield 167, 3), (191, .iconst 1, 1), (192, .iadd, 1), (193, .putfield 167, 3), (196, .aload_n 0, 1), (197, .iload_n 1, 1), (198, .invokestatic 197, 3), (201, .ifCond .eq 7, 3), (204, .iconst 3, 1), (205, .goto 4, 3), (208, .iconst 4, 1), (209, .putfield 177, 3), (212, .aload_n 0, 1), (213, .aload_n 0, 1), (214, .getfield 167, 3), (217, .putfield 200, 3), (220, .return_, 1)]
theorem tb_X12_stepOn_2_ok : dck cX12_stepOn tb_X12_stepOn_2 = true := by decide +kernel
def tb_X12_is_0 : Tb := [(0, .aload_n 0, 1), (1, .getfield 203, 3), (4, .ifCond .ne 31, 3), (7, .aload_n 0, 1), (8, .getfield 177, 3), (11, .iconst 1, 1), (12, .if_icmp .ne 23, 3), (15, .aload_n 1, 1), (16, .invokevirtual 209, 3), (19, .aload_n 0, 1), (20, .getfield 200, 3), (23, .aload_n 0, 1), (24, .getfield 174, 3), (27, .isub, 1), (28, .if_icmp .ne 7, 3), (31, .iconst 1, 1), (32, .goto 4, 3), (35, .iconst 0, 1), (36, .istore_n 2, 1), (37, .iconst 0, 1), (38, .istore_n 3, 1), (39, .iload_n 2, 1), (40, .ifCond .eq 42, 3), (43, .iload_n 3, 1), (44, .aload_n 1, 1), (45, .invokevirtual 209, 3), (48, .if_icmp .ge 34, 3), (51, .aload_n 1, 1), (52, .iload_n 3, 1), (53, .invokevirtual 212, 3), (56, .aload_n 0, 1), (57, .getfield 68, 3), (60, .aload_n 0, 1), (61, .getfield 174, 3), (64, .iload_n 3, 1), (65, .iadd, 1), (66, .iaload, 1), (67, .if_icmp .ne 7, 3), (70, .iconst 1, 1), (71, .goto 4, 3)]
theorem tb_X12_is_0_ok : dck cX12_is tb_X12_is_0 = true := by decide +kernel
def tb_X12_is_1 : Tb := [(74, .iconst 0, 1), (75, .istore_n 2, 1), (76, .iinc 3 1, 3), (79, .goto (-40), 3), (82, .iload_n 2, 1), (83, .ireturn, 1)]
theorem tb_X12_is_1_ok : dck cX12_is tb_X12_is_1 = true := by decide +kernel
def tb_X12_which_0 : Tb := [(0, .iconst 0, 1), (1, .istore_n 2, 1), (2, .iload_n 2, 1), (3, .aload_n 1, 1), (4, .arraylength, 1), (5, .if_icmp .ge 21, 3), (8, .aload_n 0, 1), (9, .aload_n 1, 1), (10, .iload_n 2, 1), (11, .aaload, 1), (12, .invokevirtual 216, 3), (15, .ifCond .eq 5, 3), (18, .iload_n 2, 1), (19, .ireturn, 1), (20, .iinc 2 1, 3), (23, .goto (-21), 3), (26, .iconst (-1), 1), (27, .ireturn, 1)]
theorem tb_X12_which_0_ok : dck cX12_which tb_X12_which_0 = true := by decide +kernel
def tb_X12_wrong_0 : Tb := [(0, .aload_n 0, 1), (1, .getfield 203, 3), (4, .ifCond .eq 4, 3), (7, .return_, 1), (8, .aload_n 0, 1), (9, .iload_n 1, 1), (10, .putfield 203, 3), (13, .aload_n 0, 1), (14, .aload_n 0, 1), (15, .getfield 174, 3), (18, .putfield 206, 3), (21, .return_, 1)]
theorem tb_X12_wrong_0_ok : dck cX12_wrong tb_X12_wrong_0 = true := by decide +kernel
def tb_X12_numberNow_0 : Tb := [(0, .aload_n 0, 1), (1, .getfield 203, 3), (4, .ifCond .eq 5, 3), (7, .iconst 0, 1), (8, .ireturn, 1), (9, .aload_n 0, 1), (10, .getfield 177, 3), (13, .iconst 2, 1), (14, .if_icmp .eq 11, 3), (17, .aload_n 0, 1), (18, .iconst 1, 1), (19, .invokevirtual 223, 3), (22, .goto 37, 3), (25, .aload_n 0, 1), (26, .getfield 200, 3), (29, .aload_n 0, 1), (30, .getfield 174, 3), (33, .isub, 1), (34, .iconst 4, 1), (35, .if_icmp .gt 19, 3), (38, .aload_n 0, 1), (39, .getfield 187, 3), (42, .iload_n 1, 1), (43, .if_icmp .lt 11, 3), (46, .aload_n 0, 1), (47, .getfield 187, 3), (50, .iload_n 2, 1), (51, .if_icmp .le 8, 3), (54, .aload_n 0, 1), (55, .iconst 2, 1), (56, .invokevirtual 223, 3), (59, .aload_n 0, 1), (60, .getfield 203, 3), (63, .ifCond .ne 10, 3), (66, .aload_n 0, 1), (67, .getfield 187, 3), (70, .goto 4, 3), (73, .iconst 0, 1), (74, .ireturn, 1)]
theorem tb_X12_numberNow_0_ok : dck cX12_numberNow tb_X12_numberNow_0 = true := by decide +kernel
def tb_X12_readNumber_0 : Tb := [(0, .aload_n 0, 1), (1, .iload_n 1, 1), (2, .iload_n 2, 1), (3, .invokevirtual 229, 3), (6, .istore_n 3, 1), (7, .aload_n 0, 1), (8, .getfield 203, 3), (11, .ifCond .ne 7, 3), (14, .aload_n 0, 1), (15, .invokevirtual 226, 3), (18, .iload_n 3, 1), (19, .ireturn, 1)]
theorem tb_X12_readNumber_0_ok : dck cX12_readNumber tb_X12_readNumber_0 = true := by decide +kernel
def tb_X12_saySky_0 : Tb := [(0, .aload_n 0, 1), (1, .invokevirtual 226, 3), (4, .aload_n 0, 1), (5, .getfield 40, 3), (8, .bipush 9, 2), (10, .aload_n 0, 1), (11, .iconst 1, 1), (12, .bipush 6, 2), (14, .invokevirtual 243, 3), (17, .iastore, 1), (18, .aload_n 0, 1), (19, .getfield 40, 3), (22, .bipush 10, 2), (24, .aload_n 0, 1), (25, .iconst 1, 1), (26, .iconst 5, 1), (27, .invokevirtual 243, 3), (30, .iastore, 1), (31, .return_, 1)]
theorem tb_X12_saySky_0_ok : dck cX12_saySky tb_X12_saySky_0 = true := by decide +kernel
def tb_X12_isMarked_0 : Tb := [(0, .aload_n 0, 1), (1, .getfield 203, 3), (4, .ifCond .ne 28, 3), (7, .aload_n 0, 1), (8, .getfield 177, 3), (11, .iconst 3, 1), (12, .if_icmp .ne 20, 3), (15, .aload_n 0, 1), (16, .getfield 68, 3), (19, .aload_n 0, 1), (20, .getfield 174, 3), (23, .iaload, 1), (24, .iload_n 1, 1), (25, .if_icmp .ne 7, 3), (28, .iconst 1, 1), (29, .goto 4, 3), (32, .iconst 0, 1), (33, .ireturn, 1)]
theorem tb_X12_isMarked_0_ok : dck cX12_isMarked tb_X12_isMarked_0 = true := by decide +kernel
def tb_X12_lay_0 : Tb := [(0, .aload_n 0, 1), (1, .getfield 203, 3), (4, .ifCond .eq 4, 3), (7, .return_, 1), (8, .bipush 9, 2), (10, .aload_n 0, 1), (11, .getfield 240, 3), (14, .ifCond .eq 8, 3), (17, .bipush 7, 2), (19, .goto 5, 3), (22, .bipush 6, 2), (24, .iadd, 1), (25, .istore_n 2, 1), (26, .aload_n 0, 1), (27, .getfield 240, 3), (30, .ifCond .eq 10, 3), (33, .aload_n 0, 1), (34, .getfield 59, 3), (37, .goto 7, 3), (40, .aload_n 0, 1), (41, .getfield 56, 3), (44, .astore_n 3, 1), (45, .aload_n 3, 1), (46, .sipush 700, 3), (49, .aload_n 0, 1), (50, .getfield 40, 3), (53, .iload_n 2, 1), (54, .iaload, 1), (55, .iadd, 1), (56, .iload_n 1, 1), (57, .iastore, 1), (58, .aload_n 0, 1), (59, .getfield 40, 3), (62, .iload_n 2, 1), (63, .dup2, 1), (64, .iaload, 1), (65, .iconst 1, 1), (66, .iadd, 1), (67, .iastore, 1), (68, .return_, 1)]
theorem tb_X12_lay_0_ok : dck cX12_lay tb_X12_lay_0 = true := by decide +kernel
def tb_X12_mark_0 : Tb := [(0, .aload_n 0, 1), (1, .getfield 203, 3), (4, .ifCond .ne 16, 3), (7, .aload_n 0, 1), (8, .iload_n 1, 1), (9, .invokevirtual 220, 3), (12, .ifCond .ne 8, 3), (15, .aload_n 0, 1), (16, .iconst 1, 1), (17, .invokevirtual 223, 3), (20, .aload_n 0, 1), (21, .getfield 203, 3), (24, .ifCond .ne 7, 3), (27, .aload_n 0, 1), (28, .invokevirtual 226, 3), (31, .return_, 1)]
theorem tb_X12_mark_0_ok : dck cX12_mark tb_X12_mark_0 = true := by decide +kernel
def tb_X12_readPart_0 : Tb := [(0, .aload_n 0, 1), (1, .getfield 203, 3), (4, .ifCond .eq 4, 3), (7, .return_, 1), (8, .aload_n 0, 1), (9, .getfield 177, 3), (12, .iconst 2, 1), (13, .if_icmp .ne 16, 3), (16, .aload_n 0, 1), (17, .aload_n 0, 1), (18, .iconst 0, 1), (19, .sipush 9999, 3), (22, .invokevirtual 243, 3), (25, .invokevirtual 246, 3), (28, .return_, 1), (29, .aload_n 0, 1), (30, .getfield 177, 3), (33, .iconst 1, 1), (34, .if_icmp .ne 41, 3), (37, .aload_n 0, 1), (38, .aload_n 0, 1), (39, .getfield 37, 3), (42, .invokevirtual 249, 3), (45, .istore_n 2, 1), (46, .iload_n 2, 1), (47, .iconst (-1), 1), (48, .if_icmp .ne 8, 3), (51, .aload_n 0, 1), (52, .iconst 3, 1), (53, .invokevirtual 223, 3), (56, .aload_n 0, 1), (57, .iconst (-1), 1), (58, .iload_n 2, 1), (59, .isub, 1), (60, .invokevirtual 246, 3), (63, .aload_n 0, 1), (64, .getfield 203, 3), (67, .ifCond .ne 7, 3), (70, .aload_n 0, 1), (71, .invokevirtual 226, 3)]
theorem tb_X12_readPart_0_ok : dck cX12_readPart tb_X12_readPart_0 = true := by decide +kernel
def tb_X12_readPart_1 : Tb := [(74, .return_, 1), (75, .aload_n 0, 1), (76, .bipush 40, 2), (78, .invokevirtual 253, 3), (81, .aload_n 0, 1), (82, .iload_n 1, 1), (83, .iconst 1, 1), (84, .iadd, 1), (85, .invokevirtual 256, 3), (88, .aload_n 0, 1), (89, .bipush 41, 2), (91, .invokevirtual 253, 3), (94, .return_, 1)]
theorem tb_X12_readPart_1_ok : dck cX12_readPart tb_X12_readPart_1 = true := by decide +kernel
def tb_X12_readProduct_0 : Tb := [(0, .aload_n 0, 1), (1, .iload_n 1, 1), (2, .invokevirtual 259, 3), (5, .aload_n 0, 1), (6, .bipush 42, 2), (8, .invokevirtual 220, 3), (11, .ifCond .ne 12, 3), (14, .aload_n 0, 1), (15, .bipush 47, 2), (17, .invokevirtual 220, 3), (20, .ifCond .eq 37, 3), (23, .aload_n 0, 1), (24, .bipush 42, 2), (26, .invokevirtual 220, 3), (29, .ifCond .eq 8, 3), (32, .bipush (-22), 2), (34, .goto 5, 3), (37, .bipush (-23), 2), (39, .istore_n 2, 1), (40, .aload_n 0, 1), (41, .invokevirtual 226, 3), (44, .aload_n 0, 1), (45, .iload_n 1, 1), (46, .invokevirtual 259, 3), (49, .aload_n 0, 1), (50, .iload_n 2, 1), (51, .invokevirtual 246, 3), (54, .goto (-49), 3), (57, .return_, 1)]
theorem tb_X12_readProduct_0_ok : dck cX12_readProduct tb_X12_readProduct_0 = true := by decide +kernel
def tb_X12_readSum_0 : Tb := [(0, .aload_n 0, 1), (1, .iload_n 1, 1), (2, .invokevirtual 262, 3), (5, .aload_n 0, 1), (6, .bipush 43, 2), (8, .invokevirtual 220, 3), (11, .ifCond .ne 12, 3), (14, .aload_n 0, 1), (15, .bipush 45, 2), (17, .invokevirtual 220, 3), (20, .ifCond .eq 37, 3), (23, .aload_n 0, 1), (24, .bipush 43, 2), (26, .invokevirtual 220, 3), (29, .ifCond .eq 8, 3), (32, .bipush (-20), 2), (34, .goto 5, 3), (37, .bipush (-21), 2), (39, .istore_n 2, 1), (40, .aload_n 0, 1), (41, .invokevirtual 226, 3), (44, .aload_n 0, 1), (45, .iload_n 1, 1), (46, .invokevirtual 262, 3), (49, .aload_n 0, 1), (50, .iload_n 2, 1), (51, .invokevirtual 246, 3), (54, .goto (-49), 3), (57, .return_, 1)]
theorem tb_X12_readSum_0_ok : dck cX12_readSum tb_X12_readSum_0 = true := by decide +kernel
def tb_X12_readNot_0 : Tb := [(0, .iconst 0, 1), (1, .istore_n 2, 1), (2, .aload_n 0, 1), (3, .ldc_w 265, 3), (6, .invokevirtual 216, 3), (9, .ifCond .eq 31, 3), (12, .iload_n 2, 1), (13, .bipush 6, 2), (15, .if_icmp .ne 8, 3), (18, .aload_n 0, 1), (19, .iconst 2, 1), (20, .invokevirtual 223, 3), (23, .iinc 2 1, 3), (26, .aload_n 0, 1), (27, .getfield 203, 3), (30, .ifCond .ne (-28), 3), (33, .aload_n 0, 1), (34, .invokevirtual 226, 3), (37, .goto (-35), 3), (40, .aload_n 0, 1), (41, .iload_n 1, 1), (42, .invokevirtual 267, 3), (45, .aload_n 0, 1), (46, .bipush 60, 2), (48, .invokevirtual 220, 3), (51, .ifCond .ne 12, 3), (54, .aload_n 0, 1), (55, .bipush 61, 2), (57, .invokevirtual 220, 3), (60, .ifCond .eq 34, 3), (63, .aload_n 0, 1), (64, .bipush 60, 2), (66, .invokevirtual 220, 3), (69, .ifCond .eq 8, 3), (72, .bipush (-24), 2), (74, .goto 5, 3), (77, .bipush (-25), 2), (79, .istore_n 3, 1), (80, .aload_n 0, 1), (81, .invokevirtual 226, 3)]
theorem tb_X12_readNot_0_ok : dck cX12_readNot tb_X12_readNot_0 = true := by decide +kernel
def tb_X12_readNot_1 : Tb := [(84, .aload_n 0, 1), (85, .iload_n 1, 1), (86, .invokevirtual 267, 3), (89, .aload_n 0, 1), (90, .iload_n 3, 1), (91, .invokevirtual 246, 3), (94, .iconst 0, 1), (95, .istore_n 3, 1), (96, .iload_n 3, 1), (97, .iload_n 2, 1), (98, .if_icmp .ge 15, 3), (101, .aload_n 0, 1), (102, .bipush (-28), 2), (104, .invokevirtual 246, 3), (107, .iinc 3 1, 3), (110, .goto (-14), 3), (113, .return_, 1)]
theorem tb_X12_readNot_1_ok : dck cX12_readNot tb_X12_readNot_1 = true := by decide +kernel
def tb_X12_readAnd_0 : Tb := [(0, .aload_n 0, 1), (1, .iload_n 1, 1), (2, .invokevirtual 270, 3), (5, .aload_n 0, 1), (6, .ldc_w 273, 3), (9, .invokevirtual 216, 3), (12, .ifCond .eq 21, 3), (15, .aload_n 0, 1), (16, .invokevirtual 226, 3), (19, .aload_n 0, 1), (20, .iload_n 1, 1), (21, .invokevirtual 270, 3), (24, .aload_n 0, 1), (25, .bipush (-26), 2), (27, .invokevirtual 246, 3), (30, .goto (-25), 3), (33, .return_, 1)]
theorem tb_X12_readAnd_0_ok : dck cX12_readAnd tb_X12_readAnd_0 = true := by decide +kernel
def tb_X12_readExpression_0 : Tb := [(0, .aload_n 0, 1), (1, .getfield 203, 3), (4, .ifCond .eq 4, 3), (7, .return_, 1), (8, .aload_n 0, 1), (9, .getfield 177, 3), (12, .iconst 2, 1), (13, .if_icmp .eq 20, 3), (16, .aload_n 0, 1), (17, .getfield 177, 3), (20, .iconst 1, 1), (21, .if_icmp .eq 12, 3), (24, .aload_n 0, 1), (25, .bipush 40, 2), (27, .invokevirtual 220, 3), (30, .ifCond .eq 7, 3), (33, .iconst 1, 1), (34, .goto 4, 3), (37, .iconst 0, 1), (38, .istore_n 2, 1), (39, .iload_n 2, 1), (40, .ifCond .ne 11, 3), (43, .aload_n 0, 1), (44, .iconst 1, 1), (45, .invokevirtual 223, 3), (48, .goto 14, 3), (51, .iload_n 1, 1), (52, .bipush 6, 2), (54, .if_icmp .ne 8, 3), (57, .aload_n 0, 1), (58, .iconst 2, 1), (59, .invokevirtual 223, 3), (62, .aload_n 0, 1), (63, .iload_n 1, 1), (64, .invokevirtual 275, 3), (67, .aload_n 0, 1), (68, .ldc_w 278, 3), (71, .invokevirtual 216, 3), (74, .ifCond .eq 21, 3), (77, .aload_n 0, 1)]
theorem tb_X12_readExpression_0_ok : dck cX12_readExpression tb_X12_readExpression_0 = true := by decide +kernel
def tb_X12_readExpression_1 : Tb := [(78, .invokevirtual 226, 3), (81, .aload_n 0, 1), (82, .iload_n 1, 1), (83, .invokevirtual 275, 3), (86, .aload_n 0, 1), (87, .bipush (-27), 2), (89, .invokevirtual 246, 3), (92, .goto (-25), 3), (95, .return_, 1)]
theorem tb_X12_readExpression_1_ok : dck cX12_readExpression tb_X12_readExpression_1 = true := by decide +kernel
def tb_X12_sayRule_0 : Tb := [(0, .aload_n 0, 1), (1, .invokevirtual 226, 3), (4, .aload_n 0, 1), (5, .iload_n 1, 1), (6, .putfield 240, 3), (9, .aload_n 0, 1), (10, .iload_n 1, 1), (11, .ifCond .eq 10, 3), (14, .aload_n 0, 1), (15, .getfield 34, 3), (18, .goto 7, 3), (21, .aload_n 0, 1), (22, .getfield 31, 3), (25, .putfield 37, 3), (28, .aload_n 0, 1), (29, .iconst 0, 1), (30, .invokevirtual 256, 3), (33, .return_, 1)]
theorem tb_X12_sayRule_0_ok : dck cX12_sayRule tb_X12_sayRule_0 = true := by decide +kernel
def tb_X12_sayOnce_0 : Tb := [(0, .iload_n 1, 1), (1, .iconst 1, 1), (2, .if_icmp .ne 8, 3), (5, .aload_n 0, 1), (6, .invokevirtual 286, 3), (9, .return_, 1), (10, .iload_n 1, 1), (11, .bipush 8, 2), (13, .if_icmp .le 19, 3), (16, .aload_n 0, 1), (17, .iload_n 1, 1), (18, .bipush 32, 2), (20, .if_icmp .ne 7, 3), (23, .iconst 1, 1), (24, .goto 4, 3), (27, .iconst 0, 1), (28, .invokevirtual 289, 3), (31, .return_, 1), (32, .aload_n 0, 1), (33, .invokevirtual 226, 3), (36, .iload_n 1, 1), (37, .iconst 2, 1), (38, .if_icmp .ne 17, 3), (41, .aload_n 0, 1), (42, .getfield 40, 3), (45, .bipush 12, 2), (47, .aload_n 0, 1), (48, .iconst 0, 1), (49, .bipush 99, 2), (51, .invokevirtual 243, 3), (54, .iastore, 1), (55, .iload_n 1, 1), (56, .iconst 4, 1), (57, .if_icmp .ne 17, 3), (60, .aload_n 0, 1), (61, .getfield 40, 3), (64, .bipush 13, 2), (66, .aload_n 0, 1), (67, .iconst 0, 1), (68, .bipush 20, 2)]
theorem tb_X12_sayOnce_0_ok : dck cX12_sayOnce tb_X12_sayOnce_0 = true := by decide +kernel
def tb_X12_sayOnce_1 : Tb := [(70, .invokevirtual 243, 3), (73, .iastore, 1), (74, .iload_n 1, 1), (75, .bipush 8, 2), (77, .if_icmp .ne 17, 3), (80, .aload_n 0, 1), (81, .getfield 40, 3), (84, .bipush 14, 2), (86, .aload_n 0, 1), (87, .iconst 1, 1), (88, .bipush 99, 2), (90, .invokevirtual 243, 3), (93, .iastore, 1), (94, .return_, 1)]
theorem tb_X12_sayOnce_1_ok : dck cX12_sayOnce tb_X12_sayOnce_1 = true := by decide +kernel
def tb_X12_isOf_0 : Tb := [(0, .iload_n 0, 1), (1, .iload_n 1, 1), (2, .ishr, 1), (3, .iconst 1, 1), (4, .iand, 1), (5, .iconst 1, 1), (6, .if_icmp .ne 7, 3), (9, .iconst 1, 1), (10, .goto 4, 3), (13, .iconst 0, 1), (14, .ireturn, 1)]
theorem tb_X12_isOf_0_ok : dck cX12_isOf tb_X12_isOf_0 = true := by decide +kernel
def tb_X12_cellNow_0 : Tb := [(0, .aload_n 0, 1), (1, .iconst 0, 1), (2, .sipush 9999, 3), (5, .invokevirtual 229, 3), (8, .istore_n 2, 1), (9, .aload_n 0, 1), (10, .getfield 203, 3), (13, .ifCond .ne 27, 3), (16, .iload_n 2, 1), (17, .aload_n 0, 1), (18, .getfield 40, 3), (21, .bipush 9, 2), (23, .iaload, 1), (24, .aload_n 0, 1), (25, .getfield 40, 3), (28, .bipush 10, 2), (30, .iaload, 1), (31, .imul, 1), (32, .if_icmp .lt 8, 3), (35, .aload_n 0, 1), (36, .iconst 3, 1), (37, .invokevirtual 223, 3), (40, .aload_n 0, 1), (41, .getfield 203, 3), (44, .ifCond .ne 16, 3), (47, .iload_n 1, 1), (48, .iload_n 2, 1), (49, .invokestatic 232, 3), (52, .ifCond .eq 8, 3), (55, .aload_n 0, 1), (56, .iconst 4, 1), (57, .invokevirtual 223, 3), (60, .aload_n 0, 1), (61, .iconst 1, 1), (62, .putfield 236, 3), (65, .aload_n 0, 1), (66, .getfield 203, 3), (69, .ifCond .ne 7, 3), (72, .iload_n 2, 1), (73, .goto 4, 3)]
theorem tb_X12_cellNow_0_ok : dck cX12_cellNow tb_X12_cellNow_0 = true := by decide +kernel
def tb_X12_cellNow_1 : Tb := [(76, .iconst 0, 1), (77, .ireturn, 1)]
theorem tb_X12_cellNow_1_ok : dck cX12_cellNow tb_X12_cellNow_1 = true := by decide +kernel
def tb_X12_sayWoman_0 : Tb := [(0, .aload_n 0, 1), (1, .getfield 40, 3), (4, .bipush 11, 2), (6, .iaload, 1), (7, .bipush 6, 2), (9, .if_icmp .ne 8, 3), (12, .aload_n 0, 1), (13, .iconst 2, 1), (14, .invokevirtual 223, 3), (17, .aload_n 0, 1), (18, .getfield 203, 3), (21, .ifCond .eq 4, 3), (24, .return_, 1), (25, .aload_n 0, 1), (26, .invokevirtual 226, 3), (29, .bipush 6, 2), (31, .aload_n 0, 1), (32, .getfield 40, 3), (35, .bipush 11, 2), (37, .iaload, 1), (38, .iadd, 1), (39, .istore_n 2, 1), (40, .aload_n 0, 1), (41, .getfield 47, 3), (44, .iload_n 2, 1), (45, .iload_n 1, 1), (46, .iastore, 1), (47, .aload_n 0, 1), (48, .getfield 50, 3), (51, .iload_n 2, 1), (52, .aload_n 0, 1), (53, .iconst 0, 1), (54, .bipush 9, 2), (56, .invokevirtual 243, 3), (59, .iastore, 1), (60, .aload_n 0, 1), (61, .getfield 53, 3), (64, .iload_n 2, 1), (65, .aload_n 0, 1), (66, .iconst 0, 1)]
theorem tb_X12_sayWoman_0_ok : dck cX12_sayWoman tb_X12_sayWoman_0 = true := by decide +kernel
def tb_X12_sayWoman_1 : Tb := [(67, .invokevirtual 283, 3), (70, .iastore, 1), (71, .aload_n 0, 1), (72, .getfield 203, 3), (75, .ifCond .eq 4, 3), (78, .return_, 1), (79, .aload_n 0, 1), (80, .invokevirtual 226, 3), (83, .aload_n 0, 1), (84, .getfield 40, 3), (87, .bipush 11, 2), (89, .dup2, 1), (90, .iaload, 1), (91, .iconst 1, 1), (92, .iadd, 1), (93, .iastore, 1), (94, .return_, 1)]
theorem tb_X12_sayWoman_1_ok : dck cX12_sayWoman tb_X12_sayWoman_1 = true := by decide +kernel
def tb_X12_sayBlue_0 : Tb := [(0, .aload_n 0, 1), (1, .invokevirtual 226, 3), (4, .aload_n 0, 1), (5, .aload_n 0, 1), (6, .getfield 280, 3), (9, .invokevirtual 283, 3), (12, .istore_n 1, 1), (13, .aload_n 0, 1), (14, .getfield 203, 3), (17, .ifCond .eq 4, 3), (20, .return_, 1), (21, .aload_n 0, 1), (22, .invokevirtual 226, 3), (25, .aload_n 0, 1), (26, .dup, 1), (27, .getfield 280, 3), (30, .iconst 1, 1), (31, .iload_n 1, 1), (32, .ishl, 1), (33, .ior, 1), (34, .putfield 280, 3), (37, .aload_n 0, 1), (38, .getfield 44, 3), (41, .bipush 30, 2), (43, .iload_n 1, 1), (44, .iadd, 1), (45, .aload_n 0, 1), (46, .iconst 0, 1), (47, .bipush 99, 2), (49, .invokevirtual 243, 3), (52, .iastore, 1), (53, .return_, 1)]
theorem tb_X12_sayBlue_0_ok : dck cX12_sayBlue tb_X12_sayBlue_0 = true := by decide +kernel
def tb_X12_sayPegs_0 : Tb := [(0, .aload_n 0, 1), (1, .invokevirtual 226, 3), (4, .aload_n 0, 1), (5, .getfield 177, 3), (8, .iconst 2, 1), (9, .if_icmp .eq 8, 3), (12, .aload_n 0, 1), (13, .iconst 1, 1), (14, .invokevirtual 223, 3), (17, .aload_n 0, 1), (18, .getfield 203, 3), (21, .ifCond .ne 51, 3), (24, .aload_n 0, 1), (25, .getfield 177, 3), (28, .iconst 2, 1), (29, .if_icmp .ne 43, 3), (32, .aload_n 0, 1), (33, .aload_n 0, 1), (34, .getfield 40, 3), (37, .bipush 17, 2), (39, .iaload, 1), (40, .invokevirtual 283, 3), (43, .istore_n 1, 1), (44, .aload_n 0, 1), (45, .getfield 203, 3), (48, .ifCond .eq 4, 3), (51, .return_, 1), (52, .aload_n 0, 1), (53, .invokevirtual 226, 3), (56, .aload_n 0, 1), (57, .getfield 40, 3), (60, .bipush 17, 2), (62, .dup2, 1), (63, .iaload, 1), (64, .iconst 1, 1), (65, .iload_n 1, 1), (66, .ishl, 1), (67, .ior, 1), (68, .iastore, 1), (69, .goto (-52), 3)]
theorem tb_X12_sayPegs_0_ok : dck cX12_sayPegs tb_X12_sayPegs_0 = true := by decide +kernel
def tb_X12_sayPegs_1 : Tb := [(72, .return_, 1)]
theorem tb_X12_sayPegs_1_ok : dck cX12_sayPegs tb_X12_sayPegs_1 = true := by decide +kernel
def tb_X12_readLine_0 : Tb := [(0, .aload_n 0, 1), (1, .aload_n 0, 1), (2, .getfield 15, 3), (5, .invokevirtual 249, 3), (8, .istore_n 2, 1), (9, .aload_n 0, 1), (10, .ldc_w 293, 3), (13, .invokevirtual 216, 3), (16, .ifCond .eq 7, 3), (19, .iconst 1, 1), (20, .goto 77, 3), (23, .aload_n 0, 1), (24, .ldc_w 295, 3), (27, .invokevirtual 216, 3), (30, .ifCond .eq 7, 3), (33, .iconst 2, 1), (34, .goto 63, 3), (37, .aload_n 0, 1), (38, .ldc_w 296, 3), (41, .invokevirtual 216, 3), (44, .ifCond .eq 7, 3), (47, .iconst 4, 1), (48, .goto 49, 3), (51, .aload_n 0, 1), (52, .ldc_w 298, 3), (55, .invokevirtual 216, 3), (58, .ifCond .eq 8, 3), (61, .bipush 8, 2), (63, .goto 34, 3), (66, .aload_n 0, 1), (67, .ldc_w 300, 3), (70, .invokevirtual 216, 3), (73, .ifCond .eq 8, 3), (76, .bipush 16, 2), (78, .goto 19, 3), (81, .aload_n 0, 1), (82, .ldc_w 302, 3), (85, .invokevirtual 216, 3), (88, .ifCond .eq 8, 3), (91, .bipush 32, 2)]
theorem tb_X12_readLine_0_ok : dck cX12_readLine tb_X12_readLine_0 = true := by decide +kernel
def tb_X12_readLine_1 : Tb := [(93, .goto 4, 3), (96, .iconst 0, 1), (97, .istore_n 3, 1), (98, .iload_n 3, 1), (99, .iconst 1, 1), (100, .if_icmp .ne 15, 3), (103, .aload_n 0, 1), (104, .getfield 236, 3), (107, .ifCond .eq 8, 3), (110, .aload_n 0, 1), (111, .iconst 4, 1), (112, .invokevirtual 223, 3), (115, .iload_n 3, 1), (116, .iload_n 1, 1), (117, .iand, 1), (118, .ifCond .eq 8, 3), (121, .aload_n 0, 1), (122, .iconst 5, 1), (123, .invokevirtual 223, 3), (126, .iload_n 3, 1), (127, .ifCond .le 18, 3), (130, .aload_n 0, 1), (131, .getfield 203, 3), (134, .ifCond .ne 11, 3), (137, .aload_n 0, 1), (138, .iload_n 3, 1), (139, .invokevirtual 304, 3), (142, .goto 54, 3), (145, .iload_n 2, 1), (146, .iconst (-1), 1), (147, .if_icmp .eq 11, 3), (150, .aload_n 0, 1), (151, .iload_n 2, 1), (152, .invokevirtual 307, 3), (155, .goto 41, 3), (158, .aload_n 0, 1), (159, .ldc 19, 2), (161, .invokevirtual 216, 3), (164, .ifCond .eq 10, 3), (167, .aload_n 0, 1)]
theorem tb_X12_readLine_1_ok : dck cX12_readLine tb_X12_readLine_1 = true := by decide +kernel
def tb_X12_readLine_2 : Tb := [(168, .invokevirtual 310, 3), (171, .goto 25, 3), (174, .aload_n 0, 1), (175, .ldc_w 313, 3), (178, .invokevirtual 216, 3), (181, .ifCond .eq 10, 3), (184, .aload_n 0, 1), (185, .invokevirtual 315, 3), (188, .goto 8, 3), (191, .aload_n 0, 1), (192, .iconst 1, 1), (193, .invokevirtual 223, 3), (196, .aload_n 0, 1), (197, .bipush 59, 2), (199, .invokevirtual 253, 3), (202, .iload_n 1, 1), (203, .iload_n 3, 1), (204, .ior, 1), (205, .ireturn, 1)]
theorem tb_X12_readLine_2_ok : dck cX12_readLine tb_X12_readLine_2 = true := by decide +kernel
def tb_X12_takeHalf_0 : Tb := [(0, .iconst 0, 1), (1, .istore_n 1, 1), (2, .iload_n 1, 1), (3, .aload_n 0, 1), (4, .arraylength, 1), (5, .iconst 2, 1), (6, .idiv, 1), (7, .if_icmp .ge 20, 3), (10, .aload_n 0, 1), (11, .iload_n 1, 1), (12, .aload_n 0, 1), (13, .aload_n 0, 1), (14, .arraylength, 1), (15, .iconst 2, 1), (16, .idiv, 1), (17, .iload_n 1, 1), (18, .iadd, 1), (19, .iaload, 1), (20, .iastore, 1), (21, .iinc 1 1, 3), (24, .goto (-22), 3), (27, .return_, 1)]
theorem tb_X12_takeHalf_0_ok : dck cX12_takeHalf tb_X12_takeHalf_0 = true := by decide +kernel
def tb_X12_takeOver_0 : Tb := [(0, .aload_n 0, 1), (1, .getfield 40, 3), (4, .invokestatic 327, 3), (7, .aload_n 0, 1), (8, .getfield 44, 3), (11, .invokestatic 327, 3), (14, .aload_n 0, 1), (15, .getfield 47, 3), (18, .invokestatic 327, 3), (21, .aload_n 0, 1), (22, .getfield 50, 3), (25, .invokestatic 327, 3), (28, .aload_n 0, 1), (29, .getfield 53, 3), (32, .invokestatic 327, 3), (35, .aload_n 0, 1), (36, .getfield 56, 3), (39, .invokestatic 327, 3), (42, .aload_n 0, 1), (43, .getfield 59, 3), (46, .invokestatic 327, 3), (49, .aload_n 0, 1), (50, .iconst 0, 1), (51, .putfield 331, 3), (54, .aload_n 0, 1), (55, .aload_n 0, 1), (56, .getfield 40, 3), (59, .iconst 3, 1), (60, .iaload, 1), (61, .putfield 147, 3), (64, .aload_n 0, 1), (65, .iconst 0, 1), (66, .putfield 333, 3), (69, .aload_n 0, 1), (70, .aload_n 0, 1), (71, .getfield 40, 3), (74, .bipush 8, 2), (76, .iaload, 1), (77, .putfield 336, 3), (80, .aload_n 0, 1)]
theorem tb_X12_takeOver_0_ok : dck cX12_takeOver tb_X12_takeOver_0 = true := by decide +kernel
def tb_X12_takeOver_1 : Tb := [(81, .iconst 0, 1), (82, .putfield 339, 3), (85, .iconst 0, 1), (86, .istore_n 1, 1), (87, .iload_n 1, 1), (88, .bipush 30, 2), (90, .if_icmp .ge 36, 3), (93, .aload_n 0, 1), (94, .getfield 75, 3), (97, .iload_n 1, 1), (98, .aload_n 0, 1), (99, .getfield 336, 3), (102, .iload_n 1, 1), (103, .invokestatic 232, 3), (106, .ifCond .eq 7, 3), (109, .iconst 0, 1), (110, .goto 9, 3), (113, .aload_n 0, 1), (114, .getfield 44, 3), (117, .iload_n 1, 1), (118, .iaload, 1), (119, .iastore, 1), (120, .iinc 1 1, 3), (123, .goto (-36), 3), (126, .iconst 0, 1), (127, .istore_n 1, 1), (128, .iload_n 1, 1), (129, .bipush 6, 2), (131, .if_icmp .ge 65, 3), (134, .iload_n 1, 1), (135, .aload_n 0, 1), (136, .getfield 40, 3), (139, .iconst 2, 1), (140, .iaload, 1), (141, .if_icmp .ge 7, 3), (144, .iconst 1, 1), (145, .goto 4, 3), (148, .iconst 0, 1), (149, .istore_n 2, 1), (150, .aload_n 0, 1)]
theorem tb_X12_takeOver_1_ok : dck cX12_takeOver tb_X12_takeOver_1 = true := by decide +kernel
def tb_X12_takeOver_2 : Tb := [(151, .getfield 65, 3), (154, .iload_n 1, 1), (155, .iload_n 2, 1), (156, .ifCond .eq 12, 3), (159, .aload_n 0, 1), (160, .getfield 50, 3), (163, .iload_n 1, 1), (164, .iaload, 1), (165, .goto 4, 3), (168, .iconst 0, 1), (169, .iastore, 1), (170, .aload_n 0, 1), (171, .getfield 77, 3), (174, .iload_n 1, 1), (175, .iload_n 2, 1), (176, .ifCond .eq 12, 3), (179, .aload_n 0, 1), (180, .getfield 53, 3), (183, .iload_n 1, 1), (184, .iaload, 1), (185, .goto 4, 3), (188, .iconst 0, 1), (189, .iastore, 1), (190, .iinc 1 1, 3), (193, .goto (-65), 3), (196, .aload_n 0, 1), (197, .iconst 0, 1), (198, .putfield 342, 3), (201, .aload_n 0, 1), (202, .iconst 0, 1), (203, .putfield 345, 3), (206, .aload_n 0, 1), (207, .iconst 0, 1), (208, .putfield 348, 3), (211, .return_, 1)]
theorem tb_X12_takeOver_2_ok : dck cX12_takeOver tb_X12_takeOver_2 = true := by decide +kernel
end
section
def tb_X12_coast_0 : Tb := [(0, .aload_n 0, 1), (1, .iconst 0, 1), (2, .putfield 150, 3), (5, .iload_n 1, 1), (6, .ifCond .lt 11, 3), (9, .iload_n 1, 1), (10, .aload_n 0, 1), (11, .getfield 161, 3), (14, .if_icmp .le 9, 3), (17, .aload_n 0, 1), (18, .iconst 1, 1), (19, .invokevirtual 318, 3), (22, .ireturn, 1), (23, .aload_n 0, 1), (24, .iconst 0, 1), (25, .putfield 161, 3), (28, .aload_n 0, 1), (29, .iload_n 1, 1), (30, .putfield 164, 3), (33, .aload_n 0, 1), (34, .iconst 0, 1), (35, .putfield 167, 3), (38, .aload_n 0, 1), (39, .iconst 0, 1), (40, .putfield 203, 3), (43, .aload_n 0, 1), (44, .iconst (-1), 1), (45, .putfield 71, 3), (48, .aload_n 0, 1), (49, .iconst 0, 1), (50, .putfield 280, 3), (53, .aload_n 0, 1), (54, .iconst 0, 1), (55, .putfield 236, 3), (58, .aload_n 0, 1), (59, .bipush 9, 2), (61, .invokevirtual 143, 3), (64, .iconst 0, 1), (65, .istore_n 2, 1), (66, .iload_n 2, 1)]
theorem tb_X12_coast_0_ok : dck cX12_coast tb_X12_coast_0 = true := by decide +kernel
def tb_X12_coast_1 : Tb := [(67, .bipush 30, 2), (69, .if_icmp .ge 19, 3), (72, .aload_n 0, 1), (73, .getfield 44, 3), (76, .bipush 30, 2), (78, .iload_n 2, 1), (79, .iadd, 1), (80, .iconst 0, 1), (81, .iastore, 1), (82, .iinc 2 1, 3), (85, .goto (-19), 3), (88, .aload_n 0, 1), (89, .invokevirtual 226, 3), (92, .iconst 0, 1), (93, .istore_n 2, 1), (94, .aload_n 0, 1), (95, .getfield 203, 3), (98, .ifCond .ne 19, 3), (101, .aload_n 0, 1), (102, .getfield 177, 3), (105, .ifCond .eq 12, 3), (108, .aload_n 0, 1), (109, .iload_n 2, 1), (110, .invokevirtual 321, 3), (113, .istore_n 2, 1), (114, .goto (-20), 3), (117, .aload_n 0, 1), (118, .getfield 203, 3), (121, .ifCond .eq 26, 3), (124, .aload_n 0, 1), (125, .aload_n 0, 1), (126, .getfield 206, 3), (129, .putfield 71, 3), (132, .aload_n 0, 1), (133, .getfield 62, 3), (136, .iconst 0, 1), (137, .dup2, 1), (138, .iaload, 1), (139, .iconst 1, 1), (140, .iadd, 1)]
theorem tb_X12_coast_1_ok : dck cX12_coast tb_X12_coast_1 = true := by decide +kernel
def tb_X12_coast_2 : Tb := [(141, .iastore, 1), (142, .aload_n 0, 1), (143, .getfield 203, 3), (146, .ireturn, 1), (147, .aload_n 0, 1), (148, .invokevirtual 324, 3), (151, .iconst 0, 1), (152, .ireturn, 1)]
theorem tb_X12_coast_2_ok : dck cX12_coast tb_X12_coast_2 = true := by decide +kernel
def tb_X12_fault_0 : Tb := [(0, .aload_n 0, 1), (1, .iconst 0, 1), (2, .putfield 150, 3), (5, .aload_n 0, 1), (6, .getfield 71, 3), (9, .ireturn, 1)]
theorem tb_X12_fault_0_ok : dck cX12_fault tb_X12_fault_0 = true := by decide +kernel
def tb_X12_cells_0 : Tb := [(0, .aload_n 0, 1), (1, .getfield 40, 3), (4, .iconst 0, 1), (5, .iaload, 1), (6, .aload_n 0, 1), (7, .getfield 40, 3), (10, .iconst 1, 1), (11, .iaload, 1), (12, .imul, 1), (13, .ireturn, 1)]
theorem tb_X12_cells_0_ok : dck cX12_cells tb_X12_cells_0 = true := by decide +kernel
def tb_X12_allBlue_0 : Tb := [(0, .iconst 0, 1), (1, .istore_n 1, 1), (2, .iconst 0, 1), (3, .istore_n 2, 1), (4, .iload_n 2, 1), (5, .aload_n 0, 1), (6, .invokevirtual 153, 3), (9, .if_icmp .ge 18, 3), (12, .iload_n 1, 1), (13, .aload_n 0, 1), (14, .getfield 75, 3), (17, .iload_n 2, 1), (18, .iaload, 1), (19, .iadd, 1), (20, .istore_n 1, 1), (21, .iinc 2 1, 3), (24, .goto (-20), 3), (27, .iload_n 1, 1), (28, .ireturn, 1)]
theorem tb_X12_allBlue_0_ok : dck cX12_allBlue tb_X12_allBlue_0 = true := by decide +kernel
def tb_X12_count_0 : Tb := [(0, .aload_n 0, 1), (1, .iconst 0, 1), (2, .putfield 150, 3), (5, .iload_n 1, 1), (6, .tableswitch 170 0 16 #[82, 87, 94, 101, 106, 111, 118, 125, 130, 135, 140, 145, 150, 155, 160, 160, 160], 82), (88, .aload_n 0, 1), (89, .invokevirtual 153, 3), (92, .ireturn, 1), (93, .aload_n 0, 1), (94, .getfield 40, 3), (97, .iconst 0, 1), (98, .iaload, 1), (99, .ireturn, 1), (100, .aload_n 0, 1), (101, .getfield 40, 3), (104, .iconst 2, 1), (105, .iaload, 1), (106, .ireturn, 1), (107, .aload_n 0, 1), (108, .getfield 331, 3), (111, .ireturn, 1), (112, .aload_n 0, 1), (113, .getfield 147, 3), (116, .ireturn, 1), (117, .aload_n 0, 1), (118, .getfield 40, 3), (121, .iconst 4, 1), (122, .iaload, 1), (123, .ireturn, 1), (124, .aload_n 0, 1), (125, .getfield 40, 3), (128, .iconst 5, 1), (129, .iaload, 1), (130, .ireturn, 1), (131, .aload_n 0, 1), (132, .getfield 333, 3), (135, .ireturn, 1), (136, .aload_n 0, 1), (137, .getfield 336, 3), (140, .ireturn, 1)]
theorem tb_X12_count_0_ok : dck cX12_count tb_X12_count_0 = true := by decide +kernel
def tb_X12_count_1 : Tb := [(141, .aload_n 0, 1), (142, .getfield 339, 3), (145, .ireturn, 1), (146, .aload_n 0, 1), (147, .invokevirtual 405, 3), (150, .ireturn, 1), (151, .aload_n 0, 1), (152, .getfield 342, 3), (155, .ireturn, 1), (156, .aload_n 0, 1), (157, .getfield 345, 3), (160, .ireturn, 1), (161, .aload_n 0, 1), (162, .getfield 161, 3), (165, .ireturn, 1), (166, .aload_n 0, 1), (167, .getfield 62, 3), (170, .iload_n 1, 1), (171, .bipush 14, 2), (173, .isub, 1), (174, .iaload, 1), (175, .ireturn, 1), (176, .aload_n 0, 1), (177, .iconst 1, 1), (178, .invokevirtual 318, 3), (181, .ireturn, 1)]
theorem tb_X12_count_1_ok : dck cX12_count tb_X12_count_1 = true := by decide +kernel
def tb_X12_isIn_0 : Tb := [(0, .lload_n 0, 1), (1, .lload_n 2, 1), (2, .lcmp, 1), (3, .ifCond .lt 14, 3), (6, .lload_n 0, 1), (7, .lload 4, 2), (9, .lcmp, 1), (10, .ifCond .gt 7, 3), (13, .iconst 1, 1), (14, .goto 4, 3), (17, .iconst 0, 1), (18, .ireturn, 1)]
theorem tb_X12_isIn_0_ok : dck cX12_isIn tb_X12_isIn_0 = true := by decide +kernel
def tb_X12_isCell_0 : Tb := [(0, .iload_n 1, 1), (1, .i2l, 1), (2, .lconst 0, 1), (3, .aload_n 0, 1), (4, .invokevirtual 153, 3), (7, .iconst 1, 1), (8, .isub, 1), (9, .i2l, 1), (10, .invokestatic 157, 3), (13, .ireturn, 1)]
theorem tb_X12_isCell_0_ok : dck cX12_isCell tb_X12_isCell_0 = true := by decide +kernel
def tb_X12_columnOf_0 : Tb := [(0, .iload_n 1, 1), (1, .aload_n 0, 1), (2, .getfield 40, 3), (5, .iconst 0, 1), (6, .iaload, 1), (7, .irem, 1), (8, .ireturn, 1)]
theorem tb_X12_columnOf_0_ok : dck cX12_columnOf tb_X12_columnOf_0 = true := by decide +kernel
def tb_X12_rowOf_0 : Tb := [(0, .iload_n 1, 1), (1, .aload_n 0, 1), (2, .getfield 40, 3), (5, .iconst 0, 1), (6, .iaload, 1), (7, .idiv, 1), (8, .ireturn, 1)]
theorem tb_X12_rowOf_0_ok : dck cX12_rowOf tb_X12_rowOf_0 = true := by decide +kernel
def tb_X12_farOf_0 : Tb := [(0, .aload_n 0, 1), (1, .iload_n 1, 1), (2, .invokevirtual 351, 3), (5, .aload_n 0, 1), (6, .iload_n 2, 1), (7, .invokevirtual 351, 3), (10, .isub, 1), (11, .invokestatic 354, 3), (14, .aload_n 0, 1), (15, .iload_n 1, 1), (16, .invokevirtual 357, 3), (19, .aload_n 0, 1), (20, .iload_n 2, 1), (21, .invokevirtual 357, 3), (24, .isub, 1), (25, .invokestatic 354, 3), (28, .iadd, 1), (29, .ireturn, 1)]
theorem tb_X12_farOf_0_ok : dck cX12_farOf tb_X12_farOf_0 = true := by decide +kernel
def tb_X12_besideOf_0 : Tb := [(0, .iconst 0, 1), (1, .istore_n 2, 1), (2, .iconst 0, 1), (3, .istore_n 3, 1), (4, .iload_n 3, 1), (5, .aload_n 0, 1), (6, .invokevirtual 153, 3), (9, .if_icmp .ge 29, 3), (12, .iload_n 2, 1), (13, .aload_n 0, 1), (14, .iload_n 1, 1), (15, .iload_n 3, 1), (16, .invokevirtual 360, 3), (19, .iconst 1, 1), (20, .if_icmp .ne 9, 3), (23, .iconst 1, 1), (24, .iload_n 3, 1), (25, .ishl, 1), (26, .goto 4, 3), (29, .iconst 0, 1), (30, .ior, 1), (31, .istore_n 2, 1), (32, .iinc 3 1, 3), (35, .goto (-31), 3), (38, .iload_n 2, 1), (39, .ireturn, 1)]
theorem tb_X12_besideOf_0_ok : dck cX12_besideOf tb_X12_besideOf_0 = true := by decide +kernel
def tb_X12_girlsAt_0 : Tb := [(0, .iconst 0, 1), (1, .istore_n 2, 1), (2, .iconst 0, 1), (3, .istore_n 3, 1), (4, .iload_n 3, 1), (5, .aload_n 0, 1), (6, .getfield 40, 3), (9, .iconst 2, 1), (10, .iaload, 1), (11, .if_icmp .ge 29, 3), (14, .iload_n 2, 1), (15, .aload_n 0, 1), (16, .getfield 77, 3), (19, .iload_n 3, 1), (20, .iaload, 1), (21, .iload_n 1, 1), (22, .if_icmp .ne 9, 3), (25, .iconst 1, 1), (26, .iload_n 3, 1), (27, .ishl, 1), (28, .goto 4, 3), (31, .iconst 0, 1), (32, .ior, 1), (33, .istore_n 2, 1), (34, .iinc 3 1, 3), (37, .goto (-33), 3), (40, .iload_n 2, 1), (41, .ireturn, 1)]
theorem tb_X12_girlsAt_0_ok : dck cX12_girlsAt tb_X12_girlsAt_0 = true := by decide +kernel
def tb_X12_patchOf_0 : Tb := [(0, .iconst 1, 1), (1, .iload_n 1, 1), (2, .ishl, 1), (3, .istore_n 3, 1), (4, .iconst 0, 1), (5, .istore 4, 2), (7, .iload 4, 2), (9, .bipush 30, 2), (11, .if_icmp .ge 108, 3), (14, .iconst 0, 1), (15, .istore 5, 2), (17, .iload 5, 2), (19, .aload_n 0, 1), (20, .invokevirtual 153, 3), (23, .if_icmp .ge 90, 3), (26, .iload_n 3, 1), (27, .iload 5, 2), (29, .invokestatic 232, 3), (32, .ifCond .ne 6, 3), (35, .goto 72, 3), (38, .aload_n 0, 1), (39, .iload 5, 2), (41, .invokevirtual 363, 3), (44, .istore 6, 2), (46, .iconst 0, 1), (47, .istore 7, 2), (49, .iload 7, 2), (51, .aload_n 0, 1), (52, .invokevirtual 153, 3), (55, .if_icmp .ge 52, 3), (58, .iload_n 3, 1), (59, .iload 6, 2), (61, .iload 7, 2), (63, .invokestatic 232, 3), (66, .ifCond .eq 32, 3), (69, .aload_n 0, 1), (70, .getfield 75, 3), (73, .iload 5, 2), (75, .iaload, 1), (76, .aload_n 0, 1)]
theorem tb_X12_patchOf_0_ok : dck cX12_patchOf tb_X12_patchOf_0 = true := by decide +kernel
def tb_X12_patchOf_1 : Tb := [(77, .getfield 75, 3), (80, .iload 7, 2), (82, .iaload, 1), (83, .isub, 1), (84, .invokestatic 354, 3), (87, .iload_n 2, 1), (88, .if_icmp .gt 10, 3), (91, .iconst 1, 1), (92, .iload 7, 2), (94, .ishl, 1), (95, .goto 4, 3), (98, .iconst 0, 1), (99, .ior, 1), (100, .istore_n 3, 1), (101, .iinc 7 1, 3), (104, .goto (-55), 3), (107, .iinc 5 1, 3), (110, .goto (-93), 3), (113, .iinc 4 1, 3), (116, .goto (-109), 3), (119, .iload_n 3, 1), (120, .ireturn, 1)]
theorem tb_X12_patchOf_1_ok : dck cX12_patchOf tb_X12_patchOf_1 = true := by decide +kernel
def tb_X12_cell_0 : Tb := [(0, .aload_n 0, 1), (1, .iconst 0, 1), (2, .putfield 150, 3), (5, .aload_n 0, 1), (6, .iload_n 1, 1), (7, .invokevirtual 408, 3), (10, .ifCond .ne 9, 3), (13, .aload_n 0, 1), (14, .iconst 1, 1), (15, .invokevirtual 318, 3), (18, .ireturn, 1), (19, .iload_n 2, 1), (20, .tableswitch 58 0 3 #[32, 39, 45, 51], 32), (52, .aload_n 0, 1), (53, .getfield 75, 3), (56, .iload_n 1, 1), (57, .iaload, 1), (58, .ireturn, 1), (59, .aload_n 0, 1), (60, .iload_n 1, 1), (61, .invokevirtual 363, 3), (64, .ireturn, 1), (65, .aload_n 0, 1), (66, .iload_n 1, 1), (67, .invokevirtual 411, 3), (70, .ireturn, 1), (71, .aload_n 0, 1), (72, .iload_n 1, 1), (73, .iconst 0, 1), (74, .invokevirtual 414, 3), (77, .ireturn, 1), (78, .aload_n 0, 1), (79, .iconst 1, 1), (80, .invokevirtual 318, 3), (83, .ireturn, 1)]
theorem tb_X12_cell_0_ok : dck cX12_cell tb_X12_cell_0 = true := by decide +kernel
def tb_X12_isGirl_0 : Tb := [(0, .iload_n 1, 1), (1, .i2l, 1), (2, .lconst 0, 1), (3, .aload_n 0, 1), (4, .getfield 40, 3), (7, .iconst 2, 1), (8, .iaload, 1), (9, .iconst 1, 1), (10, .isub, 1), (11, .i2l, 1), (12, .invokestatic 157, 3), (15, .ireturn, 1)]
theorem tb_X12_isGirl_0_ok : dck cX12_isGirl tb_X12_isGirl_0 = true := by decide +kernel
def tb_X12_blueBeside_0 : Tb := [(0, .iconst 0, 1), (1, .istore_n 2, 1), (2, .aload_n 0, 1), (3, .iload_n 1, 1), (4, .invokevirtual 363, 3), (7, .istore_n 3, 1), (8, .iconst 0, 1), (9, .istore 4, 2), (11, .iload 4, 2), (13, .aload_n 0, 1), (14, .invokevirtual 153, 3), (17, .if_icmp .ge 32, 3), (20, .iload_n 2, 1), (21, .iload_n 3, 1), (22, .iload 4, 2), (24, .invokestatic 232, 3), (27, .ifCond .eq 13, 3), (30, .aload_n 0, 1), (31, .getfield 75, 3), (34, .iload 4, 2), (36, .iaload, 1), (37, .goto 4, 3), (40, .iconst 0, 1), (41, .iadd, 1), (42, .istore_n 2, 1), (43, .iinc 4 1, 3), (46, .goto (-35), 3), (49, .iload_n 2, 1), (50, .ireturn, 1)]
theorem tb_X12_blueBeside_0_ok : dck cX12_blueBeside tb_X12_blueBeside_0 = true := by decide +kernel
def tb_X12_ask_0 : Tb := [(0, .aload_n 0, 1), (1, .getfield 83, 3), (4, .iconst 0, 1), (5, .aload_n 0, 1), (6, .getfield 75, 3), (9, .iload_n 1, 1), (10, .iaload, 1), (11, .iastore, 1), (12, .aload_n 0, 1), (13, .getfield 83, 3), (16, .iconst 1, 1), (17, .aload_n 0, 1), (18, .iload_n 1, 1), (19, .invokevirtual 370, 3), (22, .iastore, 1), (23, .aload_n 0, 1), (24, .getfield 83, 3), (27, .iconst 2, 1), (28, .aload_n 0, 1), (29, .iload_n 1, 1), (30, .invokevirtual 357, 3), (33, .iastore, 1), (34, .aload_n 0, 1), (35, .getfield 83, 3), (38, .iconst 3, 1), (39, .aload_n 0, 1), (40, .getfield 331, 3), (43, .iastore, 1), (44, .return_, 1)]
theorem tb_X12_ask_0_ok : dck cX12_ask tb_X12_ask_0 = true := by decide +kernel
def tb_X12_reckon_0 : Tb := [(0, .iload_n 0, 1), (1, .tableswitch 103 (-26) (-20) #[89, 78, 67, 55, 51, 47, 43], 43), (44, .iload_n 1, 1), (45, .iload_n 2, 1), (46, .iadd, 1), (47, .ireturn, 1), (48, .iload_n 1, 1), (49, .iload_n 2, 1), (50, .isub, 1), (51, .ireturn, 1), (52, .iload_n 1, 1), (53, .iload_n 2, 1), (54, .imul, 1), (55, .ireturn, 1), (56, .iload_n 2, 1), (57, .ifCond .ne 7, 3), (60, .iconst 0, 1), (61, .goto 6, 3), (64, .iload_n 1, 1), (65, .iload_n 2, 1), (66, .idiv, 1), (67, .ireturn, 1), (68, .iload_n 1, 1), (69, .iload_n 2, 1), (70, .if_icmp .ge 7, 3), (73, .iconst 1, 1), (74, .goto 4, 3), (77, .iconst 0, 1), (78, .ireturn, 1), (79, .iload_n 1, 1), (80, .iload_n 2, 1), (81, .if_icmp .ne 7, 3), (84, .iconst 1, 1), (85, .goto 4, 3), (88, .iconst 0, 1), (89, .ireturn, 1), (90, .iload_n 1, 1), (91, .ifCond .eq 11, 3), (94, .iload_n 2, 1), (95, .ifCond .eq 7, 3)]
theorem tb_X12_reckon_0_ok : dck cX12_reckon tb_X12_reckon_0 = true := by decide +kernel
def tb_X12_reckon_1 : Tb := [(98, .iconst 1, 1), (99, .goto 4, 3), (102, .iconst 0, 1), (103, .ireturn, 1), (104, .iload_n 1, 1), (105, .ifCond .ne 7, 3), (108, .iload_n 2, 1), (109, .ifCond .eq 7, 3), (112, .iconst 1, 1), (113, .goto 4, 3), (116, .iconst 0, 1), (117, .ireturn, 1)]
theorem tb_X12_reckon_1_ok : dck cX12_reckon tb_X12_reckon_1 = true := by decide +kernel
def tb_X12_valueNow_0 : Tb := [(0, .iconst 0, 1), (1, .istore_n 3, 1), (2, .iconst 0, 1), (3, .istore 4, 2), (5, .iload 4, 2), (7, .iload_n 2, 1), (8, .if_icmp .ge 117, 3), (11, .aload_n 1, 1), (12, .iload 4, 2), (14, .iaload, 1), (15, .istore 5, 2), (17, .iload 5, 2), (19, .bipush (-20), 2), (21, .if_icmp .le 34, 3), (24, .aload_n 0, 1), (25, .getfield 86, 3), (28, .iload_n 3, 1), (29, .iload 5, 2), (31, .ifCond .lt 8, 3), (34, .iload 5, 2), (36, .goto 12, 3), (39, .aload_n 0, 1), (40, .getfield 83, 3), (43, .iconst (-1), 1), (44, .iload 5, 2), (46, .isub, 1), (47, .iaload, 1), (48, .iastore, 1), (49, .iinc 3 1, 3), (52, .goto 67, 3), (55, .iload 5, 2), (57, .bipush (-28), 2), (59, .if_icmp .ne 30, 3), (62, .aload_n 0, 1), (63, .getfield 86, 3), (66, .iload_n 3, 1), (67, .iconst 1, 1), (68, .isub, 1), (69, .aload_n 0, 1), (70, .getfield 86, 3)]
theorem tb_X12_valueNow_0_ok : dck cX12_valueNow tb_X12_valueNow_0 = true := by decide +kernel
def tb_X12_valueNow_1 : Tb := [(73, .iload_n 3, 1), (74, .iconst 1, 1), (75, .isub, 1), (76, .iaload, 1), (77, .ifCond .eq 7, 3), (80, .iconst 0, 1), (81, .goto 4, 3), (84, .iconst 1, 1), (85, .iastore, 1), (86, .goto 33, 3), (89, .iinc 3 (-1), 3), (92, .aload_n 0, 1), (93, .getfield 86, 3), (96, .iload_n 3, 1), (97, .iconst 1, 1), (98, .isub, 1), (99, .iload 5, 2), (101, .aload_n 0, 1), (102, .getfield 86, 3), (105, .iload_n 3, 1), (106, .iconst 1, 1), (107, .isub, 1), (108, .iaload, 1), (109, .aload_n 0, 1), (110, .getfield 86, 3), (113, .iload_n 3, 1), (114, .iaload, 1), (115, .invokestatic 366, 3), (118, .iastore, 1), (119, .iinc 4 1, 3), (122, .goto (-117), 3), (125, .aload_n 0, 1), (126, .getfield 86, 3), (129, .iconst 0, 1), (130, .iaload, 1), (131, .ireturn, 1)]
theorem tb_X12_valueNow_1_ok : dck cX12_valueNow tb_X12_valueNow_1 = true := by decide +kernel
def tb_X12_dyesOf_0 : Tb := [(0, .iconst 2, 1), (1, .aload_n 0, 1), (2, .getfield 65, 3), (5, .iload_n 1, 1), (6, .iaload, 1), (7, .imul, 1), (8, .iconst 3, 1), (9, .iadd, 1), (10, .istore_n 3, 1), (11, .aload_n 0, 1), (12, .getfield 40, 3), (15, .bipush 6, 2), (17, .iaload, 1), (18, .ifCond .le 48, 3), (21, .aload_n 0, 1), (22, .aload_n 0, 1), (23, .getfield 77, 3), (26, .iload_n 1, 1), (27, .iaload, 1), (28, .invokevirtual 373, 3), (31, .aload_n 0, 1), (32, .getfield 83, 3), (35, .iconst 4, 1), (36, .aload_n 0, 1), (37, .getfield 65, 3), (40, .iload_n 1, 1), (41, .iaload, 1), (42, .iastore, 1), (43, .aload_n 0, 1), (44, .getfield 83, 3), (47, .iconst 5, 1), (48, .iload_n 2, 1), (49, .iastore, 1), (50, .aload_n 0, 1), (51, .aload_n 0, 1), (52, .getfield 56, 3), (55, .aload_n 0, 1), (56, .getfield 40, 3), (59, .bipush 6, 2), (61, .iaload, 1)]
theorem tb_X12_dyesOf_0_ok : dck cX12_dyesOf tb_X12_dyesOf_0 = true := by decide +kernel
def tb_X12_dyesOf_1 : Tb := [(62, .invokevirtual 376, 3), (65, .istore_n 3, 1), (66, .iconst 0, 1), (67, .bipush 30, 2), (69, .iload_n 3, 1), (70, .invokestatic 191, 3), (73, .invokestatic 380, 3), (76, .ireturn, 1)]
theorem tb_X12_dyesOf_1_ok : dck cX12_dyesOf tb_X12_dyesOf_1 = true := by decide +kernel
def tb_X12_girl_0 : Tb := [(0, .aload_n 0, 1), (1, .iconst 0, 1), (2, .putfield 150, 3), (5, .aload_n 0, 1), (6, .iload_n 1, 1), (7, .invokevirtual 417, 3), (10, .ifCond .ne 9, 3), (13, .aload_n 0, 1), (14, .iconst 1, 1), (15, .invokevirtual 318, 3), (18, .ireturn, 1), (19, .iload_n 2, 1), (20, .tableswitch 69 0 3 #[32, 39, 46, 53], 32), (52, .aload_n 0, 1), (53, .getfield 65, 3), (56, .iload_n 1, 1), (57, .iaload, 1), (58, .ireturn, 1), (59, .aload_n 0, 1), (60, .getfield 77, 3), (63, .iload_n 1, 1), (64, .iaload, 1), (65, .ireturn, 1), (66, .aload_n 0, 1), (67, .getfield 47, 3), (70, .iload_n 1, 1), (71, .iaload, 1), (72, .ireturn, 1), (73, .aload_n 0, 1), (74, .iload_n 1, 1), (75, .iconst 0, 1), (76, .aload_n 0, 1), (77, .getfield 147, 3), (80, .iconst 1, 1), (81, .isub, 1), (82, .invokestatic 380, 3), (85, .invokevirtual 383, 3), (88, .ireturn, 1), (89, .aload_n 0, 1), (90, .iconst 1, 1)]
theorem tb_X12_girl_0_ok : dck cX12_girl tb_X12_girl_0 = true := by decide +kernel
def tb_X12_girl_1 : Tb := [(91, .invokevirtual 318, 3), (94, .ireturn, 1)]
theorem tb_X12_girl_1_ok : dck cX12_girl tb_X12_girl_1 = true := by decide +kernel
def tb_X12_refuse_0 : Tb := [(0, .aload_n 0, 1), (1, .getfield 62, 3), (4, .iload_n 1, 1), (5, .dup2, 1), (6, .iaload, 1), (7, .iconst 1, 1), (8, .iadd, 1), (9, .iastore, 1), (10, .iconst (-1), 1), (11, .ireturn, 1)]
theorem tb_X12_refuse_0_ok : dck cX12_refuse tb_X12_refuse_0 = true := by decide +kernel
def tb_X12_pack_0 : Tb := [(0, .aload_n 1, 1), (1, .iload_n 2, 1), (2, .aload_n 0, 1), (3, .getfield 331, 3), (6, .iastore, 1), (7, .aload_n 1, 1), (8, .iload_n 2, 1), (9, .iconst 1, 1), (10, .iadd, 1), (11, .aload_n 0, 1), (12, .getfield 147, 3), (15, .iastore, 1), (16, .aload_n 1, 1), (17, .iload_n 2, 1), (18, .iconst 2, 1), (19, .iadd, 1), (20, .aload_n 0, 1), (21, .getfield 333, 3), (24, .iastore, 1), (25, .aload_n 1, 1), (26, .iload_n 2, 1), (27, .iconst 3, 1), (28, .iadd, 1), (29, .aload_n 0, 1), (30, .getfield 336, 3), (33, .iastore, 1), (34, .aload_n 1, 1), (35, .iload_n 2, 1), (36, .iconst 4, 1), (37, .iadd, 1), (38, .aload_n 0, 1), (39, .getfield 339, 3), (42, .iastore, 1), (43, .iconst 0, 1), (44, .istore_n 3, 1), (45, .iload_n 3, 1), (46, .bipush 30, 2), (48, .if_icmp .ge 22, 3), (51, .aload_n 1, 1), (52, .iload_n 2, 1)]
theorem tb_X12_pack_0_ok : dck cX12_pack tb_X12_pack_0 = true := by decide +kernel
def tb_X12_pack_1 : Tb := [(53, .iconst 5, 1), (54, .iadd, 1), (55, .iload_n 3, 1), (56, .iadd, 1), (57, .aload_n 0, 1), (58, .getfield 75, 3), (61, .iload_n 3, 1), (62, .iaload, 1), (63, .iastore, 1), (64, .iinc 3 1, 3), (67, .goto (-22), 3), (70, .iconst 0, 1), (71, .istore_n 3, 1), (72, .iload_n 3, 1), (73, .bipush 6, 2), (75, .if_icmp .ge 25, 3), (78, .aload_n 1, 1), (79, .iload_n 2, 1), (80, .iconst 5, 1), (81, .iadd, 1), (82, .bipush 30, 2), (84, .iadd, 1), (85, .iload_n 3, 1), (86, .iadd, 1), (87, .aload_n 0, 1), (88, .getfield 77, 3), (91, .iload_n 3, 1), (92, .iaload, 1), (93, .iastore, 1), (94, .iinc 3 1, 3), (97, .goto (-25), 3), (100, .return_, 1)]
theorem tb_X12_pack_1_ok : dck cX12_pack tb_X12_pack_1 = true := by decide +kernel
def tb_X12_keep_0 : Tb := [(0, .aload_n 0, 1), (1, .getfield 342, 3), (4, .bipush 40, 2), (6, .if_icmp .ne 46, 3), (9, .bipush 41, 2), (11, .istore_n 1, 1), (12, .iload_n 1, 1), (13, .aload_n 0, 1), (14, .getfield 80, 3), (17, .arraylength, 1), (18, .if_icmp .ge 24, 3), (21, .aload_n 0, 1), (22, .getfield 80, 3), (25, .iload_n 1, 1), (26, .bipush 41, 2), (28, .isub, 1), (29, .aload_n 0, 1), (30, .getfield 80, 3), (33, .iload_n 1, 1), (34, .iaload, 1), (35, .iastore, 1), (36, .iinc 1 1, 3), (39, .goto (-27), 3), (42, .aload_n 0, 1), (43, .dup, 1), (44, .getfield 342, 3), (47, .iconst 1, 1), (48, .isub, 1), (49, .putfield 342, 3), (52, .aload_n 0, 1), (53, .aload_n 0, 1), (54, .getfield 80, 3), (57, .bipush 41, 2), (59, .aload_n 0, 1), (60, .getfield 342, 3), (63, .imul, 1), (64, .invokevirtual 420, 3), (67, .aload_n 0, 1), (68, .dup, 1), (69, .getfield 342, 3)]
theorem tb_X12_keep_0_ok : dck cX12_keep tb_X12_keep_0 = true := by decide +kernel
def tb_X12_keep_1 : Tb := [(72, .iconst 1, 1), (73, .iadd, 1), (74, .putfield 342, 3), (77, .return_, 1)]
theorem tb_X12_keep_1_ok : dck cX12_keep tb_X12_keep_1 = true := by decide +kernel
def tb_X12_dye_0 : Tb := [(0, .aload_n 0, 1), (1, .getfield 75, 3), (4, .iload_n 1, 1), (5, .aload_n 0, 1), (6, .getfield 336, 3), (9, .iload_n 1, 1), (10, .invokestatic 232, 3), (13, .ifCond .eq 7, 3), (16, .iconst 0, 1), (17, .goto 16, 3), (20, .bipush 99, 2), (22, .aload_n 0, 1), (23, .getfield 75, 3), (26, .iload_n 1, 1), (27, .iaload, 1), (28, .iload_n 2, 1), (29, .iadd, 1), (30, .invokestatic 191, 3), (33, .iastore, 1), (34, .return_, 1)]
theorem tb_X12_dye_0_ok : dck cX12_dye tb_X12_dye_0 = true := by decide +kernel
def tb_X12_swish_0 : Tb := [(0, .aload_n 0, 1), (1, .iload_n 1, 1), (2, .iload_n 2, 1), (3, .invokevirtual 383, 3), (6, .istore_n 3, 1), (7, .aload_n 0, 1), (8, .getfield 77, 3), (11, .iload_n 1, 1), (12, .iaload, 1), (13, .istore 4, 2), (15, .aload_n 0, 1), (16, .iload 4, 2), (18, .iload_n 3, 1), (19, .invokevirtual 386, 3), (22, .aload_n 0, 1), (23, .getfield 47, 3), (26, .iload_n 1, 1), (27, .iaload, 1), (28, .iconst 1, 1), (29, .if_icmp .ne 59, 3), (32, .iload_n 3, 1), (33, .iconst 2, 1), (34, .idiv, 1), (35, .istore 5, 2), (37, .iload 4, 2), (39, .aload_n 0, 1), (40, .getfield 40, 3), (43, .iconst 0, 1), (44, .iaload, 1), (45, .iadd, 1), (46, .istore 6, 2), (48, .iload 6, 2), (50, .aload_n 0, 1), (51, .invokevirtual 153, 3), (54, .if_icmp .ge 31, 3), (57, .aload_n 0, 1), (58, .iload 6, 2), (60, .iload 5, 2), (62, .invokevirtual 386, 3), (65, .iload 5, 2)]
theorem tb_X12_swish_0_ok : dck cX12_swish tb_X12_swish_0 = true := by decide +kernel
def tb_X12_swish_1 : Tb := [(67, .iconst 2, 1), (68, .idiv, 1), (69, .istore 5, 2), (71, .iload 6, 2), (73, .aload_n 0, 1), (74, .getfield 40, 3), (77, .iconst 0, 1), (78, .iaload, 1), (79, .iadd, 1), (80, .istore 6, 2), (82, .goto (-34), 3), (85, .goto 48, 3), (88, .aload_n 0, 1), (89, .iload 4, 2), (91, .invokevirtual 363, 3), (94, .istore 5, 2), (96, .iconst 0, 1), (97, .istore 6, 2), (99, .iload 6, 2), (101, .aload_n 0, 1), (102, .invokevirtual 153, 3), (105, .if_icmp .ge 28, 3), (108, .iload 5, 2), (110, .iload 6, 2), (112, .invokestatic 232, 3), (115, .ifCond .eq 12, 3), (118, .aload_n 0, 1), (119, .iload 6, 2), (121, .iload_n 3, 1), (122, .iconst 2, 1), (123, .idiv, 1), (124, .invokevirtual 386, 3), (127, .iinc 6 1, 3), (130, .goto (-31), 3), (133, .return_, 1)]
theorem tb_X12_swish_1_ok : dck cX12_swish tb_X12_swish_1 = true := by decide +kernel
def tb_X12_bitsOf_0 : Tb := [(0, .iconst 0, 1), (1, .istore_n 1, 1), (2, .iload_n 0, 1), (3, .istore_n 2, 1), (4, .iload_n 2, 1), (5, .ifCond .eq 15, 3), (8, .iinc 1 1, 3), (11, .iload_n 2, 1), (12, .iload_n 2, 1), (13, .iconst 1, 1), (14, .isub, 1), (15, .iand, 1), (16, .istore_n 2, 1), (17, .goto (-13), 3), (20, .iload_n 1, 1), (21, .ireturn, 1)]
theorem tb_X12_bitsOf_0_ok : dck cX12_bitsOf tb_X12_bitsOf_0 = true := by decide +kernel
def tb_X12_fadesOf_0 : Tb := [(0, .aload_n 0, 1), (1, .getfield 75, 3), (4, .iload_n 1, 1), (5, .iaload, 1), (6, .iconst 5, 1), (7, .idiv, 1), (8, .istore_n 2, 1), (9, .aload_n 0, 1), (10, .getfield 40, 3), (13, .bipush 7, 2), (15, .iaload, 1), (16, .ifCond .le 24, 3), (19, .aload_n 0, 1), (20, .iload_n 1, 1), (21, .invokevirtual 373, 3), (24, .aload_n 0, 1), (25, .aload_n 0, 1), (26, .getfield 59, 3), (29, .aload_n 0, 1), (30, .getfield 40, 3), (33, .bipush 7, 2), (35, .iaload, 1), (36, .invokevirtual 376, 3), (39, .istore_n 2, 1), (40, .iconst 0, 1), (41, .aload_n 0, 1), (42, .getfield 75, 3), (45, .iload_n 1, 1), (46, .iaload, 1), (47, .iload_n 2, 1), (48, .invokestatic 191, 3), (51, .invokestatic 380, 3), (54, .ireturn, 1)]
theorem tb_X12_fadesOf_0_ok : dck cX12_fadesOf tb_X12_fadesOf_0 = true := by decide +kernel
def tb_X12_aDay_0 : Tb := [(0, .iconst 0, 1), (1, .istore_n 1, 1), (2, .iload_n 1, 1), (3, .aload_n 0, 1), (4, .getfield 40, 3), (7, .iconst 2, 1), (8, .iaload, 1), (9, .if_icmp .ge 49, 3), (12, .aload_n 0, 1), (13, .getfield 339, 3), (16, .iload_n 1, 1), (17, .invokestatic 232, 3), (20, .ifCond .ne 32, 3), (23, .aload_n 0, 1), (24, .getfield 147, 3), (27, .ifCond .ne 6, 3), (30, .goto 22, 3), (33, .aload_n 0, 1), (34, .dup, 1), (35, .getfield 147, 3), (38, .iconst 1, 1), (39, .isub, 1), (40, .putfield 147, 3), (43, .aload_n 0, 1), (44, .iload_n 1, 1), (45, .aload_n 0, 1), (46, .getfield 147, 3), (49, .invokevirtual 390, 3), (52, .iinc 1 1, 3), (55, .goto (-53), 3), (58, .aload_n 0, 1), (59, .iconst 0, 1), (60, .putfield 393, 3), (63, .iconst 0, 1), (64, .istore_n 1, 1), (65, .iload_n 1, 1), (66, .aload_n 0, 1), (67, .invokevirtual 153, 3), (70, .if_icmp .ge 40, 3), (73, .aload_n 0, 1)]
theorem tb_X12_aDay_0_ok : dck cX12_aDay tb_X12_aDay_0 = true := by decide +kernel
def tb_X12_aDay_1 : Tb := [(74, .dup, 1), (75, .getfield 393, 3), (78, .aload_n 0, 1), (79, .getfield 75, 3), (82, .iload_n 1, 1), (83, .iaload, 1), (84, .aload_n 0, 1), (85, .getfield 40, 3), (88, .iconst 5, 1), (89, .iaload, 1), (90, .if_icmp .le 9, 3), (93, .iconst 1, 1), (94, .iload_n 1, 1), (95, .ishl, 1), (96, .goto 4, 3), (99, .iconst 0, 1), (100, .ior, 1), (101, .putfield 393, 3), (104, .iinc 1 1, 3), (107, .goto (-42), 3), (110, .aload_n 0, 1), (111, .sipush 9999, 3), (114, .aload_n 0, 1), (115, .getfield 333, 3), (118, .aload_n 0, 1), (119, .getfield 393, 3), (122, .invokestatic 396, 3), (125, .iadd, 1), (126, .invokestatic 191, 3), (129, .putfield 333, 3), (132, .iconst 0, 1), (133, .istore_n 1, 1), (134, .iload_n 1, 1), (135, .aload_n 0, 1), (136, .invokevirtual 153, 3), (139, .if_icmp .ge 32, 3), (142, .aload_n 0, 1), (143, .getfield 75, 3), (146, .iload_n 1, 1), (147, .iconst 0, 1)]
theorem tb_X12_aDay_1_ok : dck cX12_aDay tb_X12_aDay_1 = true := by decide +kernel
def tb_X12_aDay_2 : Tb := [(148, .aload_n 0, 1), (149, .getfield 75, 3), (152, .iload_n 1, 1), (153, .iaload, 1), (154, .aload_n 0, 1), (155, .getfield 40, 3), (158, .iconst 4, 1), (159, .iaload, 1), (160, .isub, 1), (161, .invokestatic 380, 3), (164, .iastore, 1), (165, .iinc 1 1, 3), (168, .goto (-34), 3), (171, .iconst 0, 1), (172, .istore_n 1, 1), (173, .iload_n 1, 1), (174, .aload_n 0, 1), (175, .invokevirtual 153, 3), (178, .if_icmp .ge 20, 3), (181, .aload_n 0, 1), (182, .getfield 89, 3), (185, .iload_n 1, 1), (186, .aload_n 0, 1), (187, .iload_n 1, 1), (188, .invokevirtual 399, 3), (191, .iastore, 1), (192, .iinc 1 1, 3), (195, .goto (-22), 3), (198, .iconst 0, 1), (199, .istore_n 1, 1), (200, .iload_n 1, 1), (201, .aload_n 0, 1), (202, .invokevirtual 153, 3), (205, .if_icmp .ge 24, 3), (208, .aload_n 0, 1), (209, .getfield 75, 3), (212, .iload_n 1, 1), (213, .dup2, 1), (214, .iaload, 1), (215, .aload_n 0, 1)]
theorem tb_X12_aDay_2_ok : dck cX12_aDay tb_X12_aDay_2 = true := by decide +kernel
def tb_X12_aDay_3 : Tb := [(216, .getfield 89, 3), (219, .iload_n 1, 1), (220, .iaload, 1), (221, .isub, 1), (222, .iastore, 1), (223, .iinc 1 1, 3), (226, .goto (-26), 3), (229, .aload_n 0, 1), (230, .dup, 1), (231, .getfield 331, 3), (234, .iconst 1, 1), (235, .iadd, 1), (236, .putfield 331, 3), (239, .return_, 1)]
theorem tb_X12_aDay_3_ok : dck cX12_aDay tb_X12_aDay_3 = true := by decide +kernel
def tb_X12_goOn_0 : Tb := [(0, .iconst 0, 1), (1, .istore_n 2, 1), (2, .iload_n 2, 1), (3, .iload_n 1, 1), (4, .if_icmp .ge 13, 3), (7, .aload_n 0, 1), (8, .invokevirtual 402, 3), (11, .iinc 2 1, 3), (14, .goto (-12), 3), (17, .return_, 1)]
theorem tb_X12_goOn_0_ok : dck cX12_goOn tb_X12_goOn_0 = true := by decide +kernel
def tb_X12_days_0 : Tb := [(0, .aload_n 0, 1), (1, .iconst 0, 1), (2, .putfield 150, 3), (5, .iload_n 1, 1), (6, .i2l, 1), (7, .lconst 1, 1), (8, .ldc2_w 424, 3), (11, .invokestatic 157, 3), (14, .ifCond .eq 15, 3), (17, .aload_n 0, 1), (18, .getfield 331, 3), (21, .iload_n 1, 1), (22, .iadd, 1), (23, .sipush 999, 3), (26, .if_icmp .le 9, 3), (29, .aload_n 0, 1), (30, .iconst 1, 1), (31, .invokevirtual 426, 3), (34, .ireturn, 1), (35, .aload_n 0, 1), (36, .invokevirtual 429, 3), (39, .aload_n 0, 1), (40, .iload_n 1, 1), (41, .invokevirtual 432, 3), (44, .aload_n 0, 1), (45, .getfield 331, 3), (48, .ireturn, 1)]
theorem tb_X12_days_0_ok : dck cX12_days tb_X12_days_0 = true := by decide +kernel
def tb_X12_failing_0 : Tb := [(0, .aload_n 0, 1), (1, .iload_n 1, 1), (2, .putfield 150, 3), (5, .iconst 0, 1), (6, .ireturn, 1)]
theorem tb_X12_failing_0_ok : dck cX12_failing tb_X12_failing_0 = true := by decide +kernel
def tb_X12_rest_0 : Tb := [(0, .aload_n 0, 1), (1, .iconst 0, 1), (2, .putfield 150, 3), (5, .aload_n 0, 1), (6, .iload_n 1, 1), (7, .invokevirtual 417, 3), (10, .ifCond .ne 9, 3), (13, .aload_n 0, 1), (14, .iconst 1, 1), (15, .invokevirtual 435, 3), (18, .ireturn, 1), (19, .aload_n 0, 1), (20, .getfield 339, 3), (23, .iload_n 1, 1), (24, .invokestatic 232, 3), (27, .iload_n 2, 1), (28, .if_icmp .ne 15, 3), (31, .aload_n 0, 1), (32, .getfield 62, 3), (35, .iconst 1, 1), (36, .dup2, 1), (37, .iaload, 1), (38, .iconst 1, 1), (39, .iadd, 1), (40, .iastore, 1), (41, .iconst 0, 1), (42, .ireturn, 1), (43, .aload_n 0, 1), (44, .invokevirtual 429, 3), (47, .aload_n 0, 1), (48, .dup, 1), (49, .getfield 339, 3), (52, .iconst 1, 1), (53, .iload_n 1, 1), (54, .ishl, 1), (55, .ixor, 1), (56, .putfield 339, 3), (59, .iconst 1, 1), (60, .ireturn, 1)]
theorem tb_X12_rest_0_ok : dck cX12_rest tb_X12_rest_0 = true := by decide +kernel
def tb_X12_go_0 : Tb := [(0, .aload_n 0, 1), (1, .iconst 0, 1), (2, .putfield 150, 3), (5, .aload_n 0, 1), (6, .iload_n 1, 1), (7, .invokevirtual 417, 3), (10, .ifCond .eq 11, 3), (13, .aload_n 0, 1), (14, .iload_n 2, 1), (15, .invokevirtual 408, 3), (18, .ifCond .ne 9, 3), (21, .aload_n 0, 1), (22, .iconst 1, 1), (23, .invokevirtual 318, 3), (26, .ireturn, 1), (27, .aload_n 0, 1), (28, .getfield 77, 3), (31, .iload_n 1, 1), (32, .iaload, 1), (33, .iload_n 2, 1), (34, .if_icmp .ne 9, 3), (37, .aload_n 0, 1), (38, .iconst 1, 1), (39, .invokevirtual 426, 3), (42, .ireturn, 1), (43, .aload_n 0, 1), (44, .invokevirtual 429, 3), (47, .aload_n 0, 1), (48, .getfield 77, 3), (51, .iload_n 1, 1), (52, .iaload, 1), (53, .istore_n 3, 1), (54, .aload_n 0, 1), (55, .getfield 77, 3), (58, .iload_n 1, 1), (59, .iload_n 2, 1), (60, .iastore, 1), (61, .iload_n 3, 1), (62, .ireturn, 1)]
theorem tb_X12_go_0_ok : dck cX12_go tb_X12_go_0 = true := by decide +kernel
def tb_X12_bag_0 : Tb := [(0, .aload_n 0, 1), (1, .iconst 0, 1), (2, .putfield 150, 3), (5, .iload_n 1, 1), (6, .i2l, 1), (7, .lconst 1, 1), (8, .ldc2_w 438, 3), (11, .invokestatic 157, 3), (14, .ifCond .ne 9, 3), (17, .aload_n 0, 1), (18, .iconst 1, 1), (19, .invokevirtual 426, 3), (22, .ireturn, 1), (23, .aload_n 0, 1), (24, .invokevirtual 429, 3), (27, .aload_n 0, 1), (28, .bipush 99, 2), (30, .aload_n 0, 1), (31, .getfield 147, 3), (34, .iload_n 1, 1), (35, .iadd, 1), (36, .invokestatic 191, 3), (39, .putfield 147, 3), (42, .aload_n 0, 1), (43, .getfield 147, 3), (46, .ireturn, 1)]
theorem tb_X12_bag_0_ok : dck cX12_bag tb_X12_bag_0 = true := by decide +kernel
def tb_X12_peg_0 : Tb := [(0, .aload_n 0, 1), (1, .iconst 0, 1), (2, .putfield 150, 3), (5, .aload_n 0, 1), (6, .iload_n 1, 1), (7, .invokevirtual 408, 3), (10, .ifCond .ne 9, 3), (13, .aload_n 0, 1), (14, .iconst 1, 1), (15, .invokevirtual 318, 3), (18, .ireturn, 1), (19, .aload_n 0, 1), (20, .getfield 336, 3), (23, .iload_n 1, 1), (24, .invokestatic 232, 3), (27, .iload_n 2, 1), (28, .if_icmp .ne 9, 3), (31, .aload_n 0, 1), (32, .iconst 1, 1), (33, .invokevirtual 426, 3), (36, .ireturn, 1), (37, .aload_n 0, 1), (38, .invokevirtual 429, 3), (41, .aload_n 0, 1), (42, .getfield 75, 3), (45, .iload_n 1, 1), (46, .iaload, 1), (47, .istore_n 3, 1), (48, .aload_n 0, 1), (49, .dup, 1), (50, .getfield 336, 3), (53, .iconst 1, 1), (54, .iload_n 1, 1), (55, .ishl, 1), (56, .ixor, 1), (57, .putfield 336, 3), (60, .iload_n 2, 1), (61, .ifCond .eq 10, 3), (64, .aload_n 0, 1), (65, .getfield 75, 3)]
theorem tb_X12_peg_0_ok : dck cX12_peg tb_X12_peg_0 = true := by decide +kernel
def tb_X12_peg_1 : Tb := [(68, .iload_n 1, 1), (69, .iconst 0, 1), (70, .iastore, 1), (71, .iload_n 3, 1), (72, .ireturn, 1)]
theorem tb_X12_peg_1_ok : dck cX12_peg tb_X12_peg_1 = true := by decide +kernel
def tb_X12_unpack_0 : Tb := [(0, .aload_n 0, 1), (1, .aload_n 1, 1), (2, .iload_n 2, 1), (3, .iaload, 1), (4, .putfield 331, 3), (7, .aload_n 0, 1), (8, .aload_n 1, 1), (9, .iload_n 2, 1), (10, .iconst 1, 1), (11, .iadd, 1), (12, .iaload, 1), (13, .putfield 147, 3), (16, .aload_n 0, 1), (17, .aload_n 1, 1), (18, .iload_n 2, 1), (19, .iconst 2, 1), (20, .iadd, 1), (21, .iaload, 1), (22, .putfield 333, 3), (25, .aload_n 0, 1), (26, .aload_n 1, 1), (27, .iload_n 2, 1), (28, .iconst 3, 1), (29, .iadd, 1), (30, .iaload, 1), (31, .putfield 336, 3), (34, .aload_n 0, 1), (35, .aload_n 1, 1), (36, .iload_n 2, 1), (37, .iconst 4, 1), (38, .iadd, 1), (39, .iaload, 1), (40, .putfield 339, 3), (43, .iconst 0, 1), (44, .istore_n 3, 1), (45, .iload_n 3, 1), (46, .bipush 30, 2), (48, .if_icmp .ge 22, 3), (51, .aload_n 0, 1), (52, .getfield 75, 3)]
theorem tb_X12_unpack_0_ok : dck cX12_unpack tb_X12_unpack_0 = true := by decide +kernel
def tb_X12_unpack_1 : Tb := [(55, .iload_n 3, 1), (56, .aload_n 1, 1), (57, .iload_n 2, 1), (58, .iconst 5, 1), (59, .iadd, 1), (60, .iload_n 3, 1), (61, .iadd, 1), (62, .iaload, 1), (63, .iastore, 1), (64, .iinc 3 1, 3), (67, .goto (-22), 3), (70, .iconst 0, 1), (71, .istore_n 3, 1), (72, .iload_n 3, 1), (73, .bipush 6, 2), (75, .if_icmp .ge 25, 3), (78, .aload_n 0, 1), (79, .getfield 77, 3), (82, .iload_n 3, 1), (83, .aload_n 1, 1), (84, .iload_n 2, 1), (85, .iconst 5, 1), (86, .iadd, 1), (87, .bipush 30, 2), (89, .iadd, 1), (90, .iload_n 3, 1), (91, .iadd, 1), (92, .iaload, 1), (93, .iastore, 1), (94, .iinc 3 1, 3), (97, .goto (-25), 3), (100, .return_, 1)]
theorem tb_X12_unpack_1_ok : dck cX12_unpack tb_X12_unpack_1 = true := by decide +kernel
def tb_X12_undo_0 : Tb := [(0, .aload_n 0, 1), (1, .iconst 0, 1), (2, .putfield 150, 3), (5, .aload_n 0, 1), (6, .getfield 342, 3), (9, .ifCond .ne 5, 3), (12, .iconst (-1), 1), (13, .ireturn, 1), (14, .aload_n 0, 1), (15, .dup, 1), (16, .getfield 342, 3), (19, .iconst 1, 1), (20, .isub, 1), (21, .putfield 342, 3), (24, .aload_n 0, 1), (25, .aload_n 0, 1), (26, .getfield 80, 3), (29, .bipush 41, 2), (31, .aload_n 0, 1), (32, .getfield 342, 3), (35, .imul, 1), (36, .invokevirtual 440, 3), (39, .aload_n 0, 1), (40, .getfield 342, 3), (43, .ireturn, 1)]
theorem tb_X12_undo_0_ok : dck cX12_undo tb_X12_undo_0 = true := by decide +kernel
def tb_X12_then_0 : Tb := [(0, .aload_n 0, 1), (1, .iconst 0, 1), (2, .putfield 150, 3), (5, .aload_n 0, 1), (6, .iload_n 1, 1), (7, .invokevirtual 408, 3), (10, .ifCond .ne 9, 3), (13, .aload_n 0, 1), (14, .iconst 1, 1), (15, .invokevirtual 318, 3), (18, .ireturn, 1), (19, .iload_n 2, 1), (20, .i2l, 1), (21, .lconst 0, 1), (22, .ldc2_w 443, 3), (25, .invokestatic 157, 3), (28, .ifCond .ne 9, 3), (31, .aload_n 0, 1), (32, .iconst 2, 1), (33, .invokevirtual 318, 3), (36, .ireturn, 1), (37, .aload_n 0, 1), (38, .aload_n 0, 1), (39, .getfield 92, 3), (42, .iconst 0, 1), (43, .invokevirtual 420, 3), (46, .aload_n 0, 1), (47, .iload_n 2, 1), (48, .invokevirtual 432, 3), (51, .aload_n 0, 1), (52, .getfield 75, 3), (55, .iload_n 1, 1), (56, .iaload, 1), (57, .istore_n 3, 1), (58, .aload_n 0, 1), (59, .aload_n 0, 1), (60, .getfield 92, 3), (63, .iconst 0, 1), (64, .invokevirtual 440, 3), (67, .iload_n 3, 1)]
theorem tb_X12_then_0_ok : dck cX12_then tb_X12_then_0 = true := by decide +kernel
def tb_X12_then_1 : Tb := [(68, .ireturn, 1)]
theorem tb_X12_then_1_ok : dck cX12_then tb_X12_then_1 = true := by decide +kernel
end
section
def tb_X12_extreme_0 : Tb := [(0, .iconst (-1), 1), (1, .istore_n 2, 1), (2, .iconst 0, 1), (3, .istore_n 3, 1), (4, .iload_n 3, 1), (5, .aload_n 0, 1), (6, .invokevirtual 153, 3), (9, .if_icmp .ge 67, 3), (12, .aload_n 0, 1), (13, .getfield 336, 3), (16, .iload_n 3, 1), (17, .invokestatic 232, 3), (20, .ifCond .eq 6, 3), (23, .goto 47, 3), (26, .iload_n 2, 1), (27, .iconst (-1), 1), (28, .if_icmp .eq 40, 3), (31, .iload_n 1, 1), (32, .ifCond .eq 21, 3), (35, .aload_n 0, 1), (36, .getfield 75, 3), (39, .iload_n 3, 1), (40, .iaload, 1), (41, .aload_n 0, 1), (42, .getfield 75, 3), (45, .iload_n 2, 1), (46, .iaload, 1), (47, .if_icmp .le 23, 3), (50, .goto 18, 3), (53, .aload_n 0, 1), (54, .getfield 75, 3), (57, .iload_n 3, 1), (58, .iaload, 1), (59, .aload_n 0, 1), (60, .getfield 75, 3), (63, .iload_n 2, 1), (64, .iaload, 1), (65, .if_icmp .ge 5, 3), (68, .iload_n 3, 1), (69, .istore_n 2, 1)]
theorem tb_X12_extreme_0_ok : dck cX12_extreme tb_X12_extreme_0 = true := by decide +kernel
def tb_X12_extreme_1 : Tb := [(70, .iinc 3 1, 3), (73, .goto (-69), 3), (76, .iload_n 2, 1), (77, .ireturn, 1)]
theorem tb_X12_extreme_1_ok : dck cX12_extreme tb_X12_extreme_1 = true := by decide +kernel
def tb_X12_uneven_0 : Tb := [(0, .aload_n 0, 1), (1, .iconst 1, 1), (2, .invokevirtual 445, 3), (5, .iconst (-1), 1), (6, .if_icmp .ne 7, 3), (9, .iconst (-1), 1), (10, .goto 24, 3), (13, .aload_n 0, 1), (14, .getfield 75, 3), (17, .aload_n 0, 1), (18, .iconst 1, 1), (19, .invokevirtual 445, 3), (22, .iaload, 1), (23, .aload_n 0, 1), (24, .getfield 75, 3), (27, .aload_n 0, 1), (28, .iconst 0, 1), (29, .invokevirtual 445, 3), (32, .iaload, 1), (33, .isub, 1), (34, .ireturn, 1)]
theorem tb_X12_uneven_0_ok : dck cX12_uneven tb_X12_uneven_0 = true := by decide +kernel
def tb_X12_sky_0 : Tb := [(0, .aload_n 0, 1), (1, .iconst 0, 1), (2, .putfield 150, 3), (5, .iload_n 2, 1), (6, .i2l, 1), (7, .lconst 0, 1), (8, .ldc2_w 449, 3), (11, .invokestatic 157, 3), (14, .ifCond .ne 9, 3), (17, .aload_n 0, 1), (18, .iconst 1, 1), (19, .invokevirtual 318, 3), (22, .ireturn, 1), (23, .iload_n 1, 1), (24, .i2l, 1), (25, .lconst 0, 1), (26, .ldc2_w 443, 3), (29, .invokestatic 157, 3), (32, .ifCond .ne 9, 3), (35, .aload_n 0, 1), (36, .iconst 2, 1), (37, .invokevirtual 318, 3), (40, .ireturn, 1), (41, .aload_n 0, 1), (42, .aload_n 0, 1), (43, .getfield 92, 3), (46, .iconst 0, 1), (47, .invokevirtual 420, 3), (50, .aload_n 0, 1), (51, .iload_n 1, 1), (52, .invokevirtual 432, 3), (55, .iload_n 2, 1), (56, .ifCond .ne 10, 3), (59, .aload_n 0, 1), (60, .getfield 147, 3), (63, .goto 41, 3), (66, .iload_n 2, 1), (67, .iconst 1, 1), (68, .if_icmp .ne 10, 3), (71, .aload_n 0, 1)]
theorem tb_X12_sky_0_ok : dck cX12_sky tb_X12_sky_0 = true := by decide +kernel
def tb_X12_sky_1 : Tb := [(72, .getfield 333, 3), (75, .goto 29, 3), (78, .iload_n 2, 1), (79, .iconst 2, 1), (80, .if_icmp .ne 10, 3), (83, .aload_n 0, 1), (84, .invokevirtual 451, 3), (87, .goto 17, 3), (90, .aload_n 0, 1), (91, .iload_n 2, 1), (92, .iconst 3, 1), (93, .if_icmp .ne 7, 3), (96, .iconst 1, 1), (97, .goto 4, 3), (100, .iconst 0, 1), (101, .invokevirtual 445, 3), (104, .istore_n 3, 1), (105, .aload_n 0, 1), (106, .aload_n 0, 1), (107, .getfield 92, 3), (110, .iconst 0, 1), (111, .invokevirtual 440, 3), (114, .iload_n 3, 1), (115, .ireturn, 1)]
theorem tb_X12_sky_1_ok : dck cX12_sky tb_X12_sky_1 = true := by decide +kernel
def tb_X12_overdone_0 : Tb := [(0, .aload_n 0, 1), (1, .iconst 0, 1), (2, .putfield 150, 3), (5, .iload_n 1, 1), (6, .i2l, 1), (7, .lconst 1, 1), (8, .ldc2_w 443, 3), (11, .invokestatic 157, 3), (14, .ifCond .ne 9, 3), (17, .aload_n 0, 1), (18, .iconst 1, 1), (19, .invokevirtual 318, 3), (22, .ireturn, 1), (23, .aload_n 0, 1), (24, .aload_n 0, 1), (25, .getfield 92, 3), (28, .iconst 0, 1), (29, .invokevirtual 420, 3), (32, .aload_n 0, 1), (33, .iload_n 1, 1), (34, .invokevirtual 432, 3), (37, .aload_n 0, 1), (38, .aload_n 0, 1), (39, .getfield 92, 3), (42, .iconst 0, 1), (43, .invokevirtual 440, 3), (46, .aload_n 0, 1), (47, .getfield 393, 3), (50, .ireturn, 1)]
theorem tb_X12_overdone_0_ok : dck cX12_overdone tb_X12_overdone_0 = true := by decide +kernel
def tb_X12_first_0 : Tb := [(0, .aload_n 0, 1), (1, .iconst 0, 1), (2, .putfield 150, 3), (5, .aload_n 0, 1), (6, .iload_n 1, 1), (7, .invokevirtual 408, 3), (10, .ifCond .ne 9, 3), (13, .aload_n 0, 1), (14, .iconst 1, 1), (15, .invokevirtual 318, 3), (18, .ireturn, 1), (19, .aload_n 0, 1), (20, .aload_n 0, 1), (21, .getfield 92, 3), (24, .iconst 0, 1), (25, .invokevirtual 420, 3), (28, .iconst (-1), 1), (29, .istore_n 2, 1), (30, .iconst 1, 1), (31, .istore_n 3, 1), (32, .iload_n 3, 1), (33, .bipush 40, 2), (35, .if_icmp .gt 31, 3), (38, .iload_n 2, 1), (39, .iconst (-1), 1), (40, .if_icmp .ne 26, 3), (43, .aload_n 0, 1), (44, .invokevirtual 402, 3), (47, .aload_n 0, 1), (48, .getfield 393, 3), (51, .iload_n 1, 1), (52, .invokestatic 232, 3), (55, .ifCond .eq 5, 3), (58, .iload_n 3, 1), (59, .istore_n 2, 1), (60, .iinc 3 1, 3), (63, .goto (-31), 3), (66, .aload_n 0, 1), (67, .aload_n 0, 1), (68, .getfield 92, 3)]
theorem tb_X12_first_0_ok : dck cX12_first tb_X12_first_0 = true := by decide +kernel
def tb_X12_first_1 : Tb := [(71, .iconst 0, 1), (72, .invokevirtual 440, 3), (75, .iload_n 2, 1), (76, .ireturn, 1)]
theorem tb_X12_first_1_ok : dck cX12_first tb_X12_first_1 = true := by decide +kernel
def tb_X12_spent_0 : Tb := [(0, .aload_n 0, 1), (1, .iconst 0, 1), (2, .putfield 150, 3), (5, .aload_n 0, 1), (6, .aload_n 0, 1), (7, .getfield 92, 3), (10, .iconst 0, 1), (11, .invokevirtual 420, 3), (14, .iconst (-1), 1), (15, .istore_n 1, 1), (16, .iconst 0, 1), (17, .istore_n 2, 1), (18, .iload_n 2, 1), (19, .bipush 40, 2), (21, .if_icmp .gt 27, 3), (24, .iload_n 1, 1), (25, .iconst (-1), 1), (26, .if_icmp .ne 22, 3), (29, .aload_n 0, 1), (30, .getfield 147, 3), (33, .ifCond .ne 5, 3), (36, .iload_n 2, 1), (37, .istore_n 1, 1), (38, .aload_n 0, 1), (39, .invokevirtual 402, 3), (42, .iinc 2 1, 3), (45, .goto (-27), 3), (48, .aload_n 0, 1), (49, .aload_n 0, 1), (50, .getfield 92, 3), (53, .iconst 0, 1), (54, .invokevirtual 440, 3), (57, .iload_n 1, 1), (58, .ireturn, 1)]
theorem tb_X12_spent_0_ok : dck cX12_spent tb_X12_spent_0 = true := by decide +kernel
def tb_X12_band_0 : Tb := [(0, .aload_n 0, 1), (1, .iconst 0, 1), (2, .putfield 150, 3), (5, .iload_n 1, 1), (6, .i2l, 1), (7, .lconst 0, 1), (8, .ldc2_w 443, 3), (11, .invokestatic 157, 3), (14, .ifCond .ne 9, 3), (17, .aload_n 0, 1), (18, .iconst 1, 1), (19, .invokevirtual 318, 3), (22, .ireturn, 1), (23, .aload_n 0, 1), (24, .aload_n 0, 1), (25, .getfield 92, 3), (28, .iconst 0, 1), (29, .invokevirtual 420, 3), (32, .aload_n 0, 1), (33, .iload_n 1, 1), (34, .invokevirtual 432, 3), (37, .iconst 0, 1), (38, .istore_n 2, 1), (39, .iconst (-1), 1), (40, .istore_n 3, 1), (41, .iconst 0, 1), (42, .istore 4, 2), (44, .iload 4, 2), (46, .aload_n 0, 1), (47, .getfield 40, 3), (50, .iconst 1, 1), (51, .iaload, 1), (52, .if_icmp .ge 69, 3), (55, .iconst 0, 1), (56, .istore 5, 2), (58, .iconst 0, 1), (59, .istore 6, 2), (61, .iload 6, 2), (63, .aload_n 0, 1), (64, .getfield 40, 3)]
theorem tb_X12_band_0_ok : dck cX12_band tb_X12_band_0 = true := by decide +kernel
def tb_X12_band_1 : Tb := [(67, .iconst 0, 1), (68, .iaload, 1), (69, .if_icmp .ge 31, 3), (72, .iload 5, 2), (74, .aload_n 0, 1), (75, .getfield 75, 3), (78, .aload_n 0, 1), (79, .getfield 40, 3), (82, .iconst 0, 1), (83, .iaload, 1), (84, .iload 4, 2), (86, .imul, 1), (87, .iload 6, 2), (89, .iadd, 1), (90, .iaload, 1), (91, .iadd, 1), (92, .istore 5, 2), (94, .iinc 6 1, 3), (97, .goto (-36), 3), (100, .iload 5, 2), (102, .iload_n 3, 1), (103, .if_icmp .gt 6, 3), (106, .goto 9, 3), (109, .iload 4, 2), (111, .istore_n 2, 1), (112, .iload 5, 2), (114, .istore_n 3, 1), (115, .iinc 4 1, 3), (118, .goto (-74), 3), (121, .aload_n 0, 1), (122, .aload_n 0, 1), (123, .getfield 92, 3), (126, .iconst 0, 1), (127, .invokevirtual 440, 3), (130, .iload_n 2, 1), (131, .ireturn, 1)]
theorem tb_X12_band_1_ok : dck cX12_band tb_X12_band_1 = true := by decide +kernel
def tb_X12_copyTo_0 : Tb := [(0, .iconst 0, 1), (1, .istore_n 2, 1), (2, .iload_n 2, 1), (3, .aload_n 0, 1), (4, .arraylength, 1), (5, .if_icmp .ge 15, 3), (8, .aload_n 0, 1), (9, .iload_n 2, 1), (10, .aload_n 1, 1), (11, .iload_n 2, 1), (12, .iaload, 1), (13, .iastore, 1), (14, .iinc 2 1, 3), (17, .goto (-15), 3), (20, .return_, 1)]
theorem tb_X12_copyTo_0_ok : dck cX12_copyTo tb_X12_copyTo_0 = true := by decide +kernel
def tb_X12_steady_0 : Tb := [(0, .aload_n 0, 1), (1, .iconst 0, 1), (2, .putfield 150, 3), (5, .aload_n 0, 1), (6, .aload_n 0, 1), (7, .getfield 92, 3), (10, .iconst 0, 1), (11, .invokevirtual 420, 3), (14, .iconst (-1), 1), (15, .istore_n 1, 1), (16, .iconst 1, 1), (17, .istore_n 2, 1), (18, .iload_n 2, 1), (19, .bipush 40, 2), (21, .if_icmp .gt 82, 3), (24, .iload_n 1, 1), (25, .iconst (-1), 1), (26, .if_icmp .ne 77, 3), (29, .aload_n 0, 1), (30, .getfield 95, 3), (33, .aload_n 0, 1), (34, .getfield 75, 3), (37, .invokestatic 454, 3), (40, .aload_n 0, 1), (41, .invokevirtual 402, 3), (44, .iconst 1, 1), (45, .istore_n 3, 1), (46, .iconst 0, 1), (47, .istore 4, 2), (49, .iload 4, 2), (51, .aload_n 0, 1), (52, .invokevirtual 153, 3), (55, .if_icmp .ge 36, 3), (58, .iload_n 3, 1), (59, .ifCond .eq 24, 3), (62, .aload_n 0, 1), (63, .getfield 75, 3), (66, .iload 4, 2), (68, .iaload, 1), (69, .aload_n 0, 1)]
theorem tb_X12_steady_0_ok : dck cX12_steady tb_X12_steady_0 = true := by decide +kernel
def tb_X12_steady_1 : Tb := [(70, .getfield 95, 3), (73, .iload 4, 2), (75, .iaload, 1), (76, .if_icmp .ne 7, 3), (79, .iconst 1, 1), (80, .goto 4, 3), (83, .iconst 0, 1), (84, .istore_n 3, 1), (85, .iinc 4 1, 3), (88, .goto (-39), 3), (91, .iload_n 3, 1), (92, .ifCond .eq 5, 3), (95, .iload_n 2, 1), (96, .istore_n 1, 1), (97, .iinc 2 1, 3), (100, .goto (-82), 3), (103, .aload_n 0, 1), (104, .aload_n 0, 1), (105, .getfield 92, 3), (108, .iconst 0, 1), (109, .invokevirtual 440, 3), (112, .iload_n 1, 1), (113, .ireturn, 1)]
theorem tb_X12_steady_1_ok : dck cX12_steady tb_X12_steady_1 = true := by decide +kernel
def tb_X12_streakFrom_0 : Tb := [(0, .iconst 1, 1), (1, .istore_n 2, 1), (2, .aload_n 0, 1), (3, .iload_n 1, 1), (4, .invokevirtual 351, 3), (7, .iload_n 2, 1), (8, .iadd, 1), (9, .aload_n 0, 1), (10, .getfield 40, 3), (13, .iconst 0, 1), (14, .iaload, 1), (15, .if_icmp .ge 26, 3), (18, .aload_n 0, 1), (19, .getfield 75, 3), (22, .iload_n 1, 1), (23, .iload_n 2, 1), (24, .iadd, 1), (25, .iaload, 1), (26, .aload_n 0, 1), (27, .getfield 75, 3), (30, .iload_n 1, 1), (31, .iaload, 1), (32, .if_icmp .ne 9, 3), (35, .iinc 2 1, 3), (38, .goto (-36), 3), (41, .iload_n 2, 1), (42, .ireturn, 1)]
theorem tb_X12_streakFrom_0_ok : dck cX12_streakFrom tb_X12_streakFrom_0 = true := by decide +kernel
def tb_X12_streak_0 : Tb := [(0, .aload_n 0, 1), (1, .iconst 0, 1), (2, .putfield 150, 3), (5, .iload_n 1, 1), (6, .ifCond .lt 8, 3), (9, .iload_n 1, 1), (10, .iconst 1, 1), (11, .if_icmp .le 9, 3), (14, .aload_n 0, 1), (15, .iconst 1, 1), (16, .invokevirtual 318, 3), (19, .ireturn, 1), (20, .iconst 0, 1), (21, .istore_n 2, 1), (22, .iconst 1, 1), (23, .istore_n 3, 1), (24, .iload_n 3, 1), (25, .aload_n 0, 1), (26, .invokevirtual 153, 3), (29, .if_icmp .ge 24, 3), (32, .aload_n 0, 1), (33, .iload_n 3, 1), (34, .invokevirtual 458, 3), (37, .aload_n 0, 1), (38, .iload_n 2, 1), (39, .invokevirtual 458, 3), (42, .if_icmp .le 5, 3), (45, .iload_n 3, 1), (46, .istore_n 2, 1), (47, .iinc 3 1, 3), (50, .goto (-26), 3), (53, .iload_n 1, 1), (54, .ifCond .ne 11, 3), (57, .aload_n 0, 1), (58, .iload_n 2, 1), (59, .invokevirtual 458, 3), (62, .goto 4, 3), (65, .iload_n 2, 1), (66, .ireturn, 1)]
theorem tb_X12_streak_0_ok : dck cX12_streak tb_X12_streak_0 = true := by decide +kernel
def tb_X12_patch_0 : Tb := [(0, .aload_n 0, 1), (1, .iconst 0, 1), (2, .putfield 150, 3), (5, .aload_n 0, 1), (6, .iload_n 1, 1), (7, .invokevirtual 408, 3), (10, .ifCond .ne 9, 3), (13, .aload_n 0, 1), (14, .iconst 1, 1), (15, .invokevirtual 318, 3), (18, .ireturn, 1), (19, .iload_n 2, 1), (20, .i2l, 1), (21, .lconst 0, 1), (22, .ldc2_w 461, 3), (25, .invokestatic 157, 3), (28, .ifCond .eq 12, 3), (31, .aload_n 0, 1), (32, .iload_n 1, 1), (33, .iload_n 2, 1), (34, .invokevirtual 414, 3), (37, .goto 8, 3), (40, .aload_n 0, 1), (41, .iconst 2, 1), (42, .invokevirtual 318, 3), (45, .ireturn, 1)]
theorem tb_X12_patch_0_ok : dck cX12_patch tb_X12_patch_0 = true := by decide +kernel
def tb_X12_patches_0 : Tb := [(0, .aload_n 0, 1), (1, .iconst 0, 1), (2, .putfield 150, 3), (5, .iload_n 1, 1), (6, .i2l, 1), (7, .lconst 0, 1), (8, .ldc2_w 461, 3), (11, .invokestatic 157, 3), (14, .ifCond .ne 9, 3), (17, .aload_n 0, 1), (18, .iconst 1, 1), (19, .invokevirtual 318, 3), (22, .ireturn, 1), (23, .iconst 0, 1), (24, .istore_n 2, 1), (25, .iconst 0, 1), (26, .istore_n 3, 1), (27, .iconst 0, 1), (28, .istore 4, 2), (30, .iload 4, 2), (32, .aload_n 0, 1), (33, .invokevirtual 153, 3), (36, .if_icmp .ge 34, 3), (39, .iload_n 3, 1), (40, .iload 4, 2), (42, .invokestatic 232, 3), (45, .ifCond .eq 6, 3), (48, .goto 16, 3), (51, .iload_n 3, 1), (52, .aload_n 0, 1), (53, .iload 4, 2), (55, .iload_n 1, 1), (56, .invokevirtual 414, 3), (59, .ior, 1), (60, .istore_n 3, 1), (61, .iinc 2 1, 3), (64, .iinc 4 1, 3), (67, .goto (-37), 3), (70, .iload_n 2, 1), (71, .ireturn, 1)]
theorem tb_X12_patches_0_ok : dck cX12_patches tb_X12_patches_0 = true := by decide +kernel
def tb_X12_way_0 : Tb := [(0, .aload_n 0, 1), (1, .iconst 0, 1), (2, .putfield 150, 3), (5, .aload_n 0, 1), (6, .iload_n 1, 1), (7, .invokevirtual 408, 3), (10, .ifCond .eq 11, 3), (13, .aload_n 0, 1), (14, .iload_n 2, 1), (15, .invokevirtual 408, 3), (18, .ifCond .ne 9, 3), (21, .aload_n 0, 1), (22, .iconst 1, 1), (23, .invokevirtual 318, 3), (26, .ireturn, 1), (27, .iconst 1, 1), (28, .iload_n 1, 1), (29, .ishl, 1), (30, .aload_n 0, 1), (31, .getfield 336, 3), (34, .iconst (-1), 1), (35, .ixor, 1), (36, .iand, 1), (37, .istore_n 3, 1), (38, .iconst 0, 1), (39, .istore 4, 2), (41, .iload 4, 2), (43, .bipush 30, 2), (45, .if_icmp .ge 75, 3), (48, .iload_n 3, 1), (49, .iload_n 2, 1), (50, .invokestatic 232, 3), (53, .ifCond .eq 6, 3), (56, .iload 4, 2), (58, .ireturn, 1), (59, .iload_n 3, 1), (60, .istore 5, 2), (62, .iconst 0, 1), (63, .istore 6, 2), (65, .iload 6, 2)]
theorem tb_X12_way_0_ok : dck cX12_way tb_X12_way_0 = true := by decide +kernel
def tb_X12_way_1 : Tb := [(67, .aload_n 0, 1), (68, .invokevirtual 153, 3), (71, .if_icmp .ge 33, 3), (74, .iload 5, 2), (76, .iload_n 3, 1), (77, .iload 6, 2), (79, .invokestatic 232, 3), (82, .ifCond .eq 12, 3), (85, .aload_n 0, 1), (86, .iload 6, 2), (88, .invokevirtual 363, 3), (91, .goto 4, 3), (94, .iconst 0, 1), (95, .ior, 1), (96, .istore 5, 2), (98, .iinc 6 1, 3), (101, .goto (-36), 3), (104, .iload 5, 2), (106, .aload_n 0, 1), (107, .getfield 336, 3), (110, .iconst (-1), 1), (111, .ixor, 1), (112, .iand, 1), (113, .istore_n 3, 1), (114, .iinc 4 1, 3), (117, .goto (-76), 3), (120, .iconst (-1), 1), (121, .ireturn, 1)]
theorem tb_X12_way_1_ok : dck cX12_way tb_X12_way_1 = true := by decide +kernel
def tb_X12_unevenNext_0 : Tb := [(0, .aload_n 0, 1), (1, .aload_n 0, 1), (2, .getfield 92, 3), (5, .iconst 0, 1), (6, .invokevirtual 420, 3), (9, .aload_n 0, 1), (10, .invokevirtual 402, 3), (13, .aload_n 0, 1), (14, .invokevirtual 451, 3), (17, .istore_n 1, 1), (18, .aload_n 0, 1), (19, .aload_n 0, 1), (20, .getfield 92, 3), (23, .iconst 0, 1), (24, .invokevirtual 440, 3), (27, .iload_n 1, 1), (28, .ireturn, 1)]
theorem tb_X12_unevenNext_0_ok : dck cX12_unevenNext tb_X12_unevenNext_0 = true := by decide +kernel
def tb_X12_toRest_0 : Tb := [(0, .aload_n 0, 1), (1, .iconst 0, 1), (2, .putfield 150, 3), (5, .iconst (-1), 1), (6, .istore_n 1, 1), (7, .aload_n 0, 1), (8, .invokevirtual 463, 3), (11, .istore_n 2, 1), (12, .aload_n 0, 1), (13, .getfield 339, 3), (16, .istore_n 3, 1), (17, .iconst 0, 1), (18, .istore 4, 2), (20, .iload 4, 2), (22, .aload_n 0, 1), (23, .getfield 40, 3), (26, .iconst 2, 1), (27, .iaload, 1), (28, .if_icmp .ge 57, 3), (31, .iload_n 3, 1), (32, .iload 4, 2), (34, .invokestatic 232, 3), (37, .ifCond .eq 6, 3), (40, .goto 39, 3), (43, .aload_n 0, 1), (44, .iload_n 3, 1), (45, .iconst 1, 1), (46, .iload 4, 2), (48, .ishl, 1), (49, .ior, 1), (50, .putfield 339, 3), (53, .aload_n 0, 1), (54, .invokevirtual 463, 3), (57, .istore 5, 2), (59, .aload_n 0, 1), (60, .iload_n 3, 1), (61, .putfield 339, 3), (64, .iload 5, 2), (66, .iload_n 2, 1), (67, .if_icmp .lt 6, 3)]
theorem tb_X12_toRest_0_ok : dck cX12_toRest tb_X12_toRest_0 = true := by decide +kernel
def tb_X12_toRest_1 : Tb := [(70, .goto 9, 3), (73, .iload 4, 2), (75, .istore_n 1, 1), (76, .iload 5, 2), (78, .istore_n 2, 1), (79, .iinc 4 1, 3), (82, .goto (-62), 3), (85, .iload_n 1, 1), (86, .ireturn, 1)]
theorem tb_X12_toRest_1_ok : dck cX12_toRest tb_X12_toRest_1 = true := by decide +kernel
def tb_X12_toStand_0 : Tb := [(0, .aload_n 0, 1), (1, .iconst 0, 1), (2, .putfield 150, 3), (5, .aload_n 0, 1), (6, .iload_n 1, 1), (7, .invokevirtual 417, 3), (10, .ifCond .eq 12, 3), (13, .iload_n 2, 1), (14, .ifCond .lt 8, 3), (17, .iload_n 2, 1), (18, .iconst 1, 1), (19, .if_icmp .le 9, 3), (22, .aload_n 0, 1), (23, .iconst 1, 1), (24, .invokevirtual 318, 3), (27, .ireturn, 1), (28, .aload_n 0, 1), (29, .getfield 77, 3), (32, .iload_n 1, 1), (33, .iaload, 1), (34, .istore_n 3, 1), (35, .iconst (-1), 1), (36, .istore 4, 2), (38, .iconst 0, 1), (39, .istore 5, 2), (41, .iconst 0, 1), (42, .istore 6, 2), (44, .iload 6, 2), (46, .aload_n 0, 1), (47, .invokevirtual 153, 3), (50, .if_icmp .ge 47, 3), (53, .aload_n 0, 1), (54, .getfield 77, 3), (57, .iload_n 1, 1), (58, .iload 6, 2), (60, .iastore, 1), (61, .aload_n 0, 1), (62, .invokevirtual 463, 3), (65, .istore 7, 2), (67, .iload 4, 2)]
theorem tb_X12_toStand_0_ok : dck cX12_toStand tb_X12_toStand_0 = true := by decide +kernel
def tb_X12_toStand_1 : Tb := [(69, .iconst (-1), 1), (70, .if_icmp .eq 13, 3), (73, .iload 7, 2), (75, .iload 5, 2), (77, .if_icmp .lt 6, 3), (80, .goto 11, 3), (83, .iload 6, 2), (85, .istore 4, 2), (87, .iload 7, 2), (89, .istore 5, 2), (91, .iinc 6 1, 3), (94, .goto (-50), 3), (97, .aload_n 0, 1), (98, .getfield 77, 3), (101, .iload_n 1, 1), (102, .iload_n 3, 1), (103, .iastore, 1), (104, .iload_n 2, 1), (105, .ifCond .ne 8, 3), (108, .iload 4, 2), (110, .goto 5, 3), (113, .iload 5, 2), (115, .ireturn, 1)]
theorem tb_X12_toStand_1_ok : dck cX12_toStand tb_X12_toStand_1 = true := by decide +kernel
def tb_X12_toSwish_0 : Tb := [(0, .aload_n 0, 1), (1, .iconst 0, 1), (2, .putfield 150, 3), (5, .aload_n 0, 1), (6, .iload_n 1, 1), (7, .invokevirtual 417, 3), (10, .ifCond .ne 9, 3), (13, .aload_n 0, 1), (14, .iconst 1, 1), (15, .invokevirtual 318, 3), (18, .ireturn, 1), (19, .iload_n 2, 1), (20, .i2l, 1), (21, .lconst 0, 1), (22, .ldc2_w 461, 3), (25, .invokestatic 157, 3), (28, .ifCond .ne 9, 3), (31, .aload_n 0, 1), (32, .iconst 2, 1), (33, .invokevirtual 318, 3), (36, .ireturn, 1), (37, .aload_n 0, 1), (38, .aload_n 0, 1), (39, .getfield 92, 3), (42, .iconst 0, 1), (43, .invokevirtual 420, 3), (46, .iconst 0, 1), (47, .istore_n 3, 1), (48, .iload_n 3, 1), (49, .bipush 20, 2), (51, .if_icmp .gt 33, 3), (54, .aload_n 0, 1), (55, .getfield 75, 3), (58, .aload_n 0, 1), (59, .getfield 77, 3), (62, .iload_n 1, 1), (63, .iaload, 1), (64, .iaload, 1), (65, .iload_n 2, 1), (66, .if_icmp .ge 18, 3)]
theorem tb_X12_toSwish_0_ok : dck cX12_toSwish tb_X12_toSwish_0 = true := by decide +kernel
def tb_X12_toSwish_1 : Tb := [(69, .aload_n 0, 1), (70, .iload_n 1, 1), (71, .aload_n 0, 1), (72, .getfield 147, 3), (75, .invokevirtual 390, 3), (78, .iinc 3 1, 3), (81, .goto (-33), 3), (84, .aload_n 0, 1), (85, .aload_n 0, 1), (86, .getfield 92, 3), (89, .iconst 0, 1), (90, .invokevirtual 440, 3), (93, .iload_n 3, 1), (94, .bipush 20, 2), (96, .if_icmp .le 7, 3), (99, .iconst (-1), 1), (100, .goto 4, 3), (103, .iload_n 3, 1), (104, .ireturn, 1)]
theorem tb_X12_toSwish_1_ok : dck cX12_toSwish tb_X12_toSwish_1 = true := by decide +kernel
def tb_X12_missed_0 : Tb := [(0, .aload_n 0, 1), (1, .iconst 0, 1), (2, .putfield 150, 3), (5, .aload_n 0, 1), (6, .iload_n 1, 1), (7, .invokevirtual 417, 3), (10, .ifCond .ne 9, 3), (13, .aload_n 0, 1), (14, .iconst 1, 1), (15, .invokevirtual 318, 3), (18, .ireturn, 1), (19, .aload_n 0, 1), (20, .aload_n 0, 1), (21, .getfield 92, 3), (24, .iconst 0, 1), (25, .invokevirtual 420, 3), (28, .aload_n 0, 1), (29, .dup, 1), (30, .getfield 339, 3), (33, .iconst 1, 1), (34, .iload_n 1, 1), (35, .ishl, 1), (36, .iconst (-1), 1), (37, .ixor, 1), (38, .iand, 1), (39, .putfield 339, 3), (42, .aload_n 0, 1), (43, .invokevirtual 402, 3), (46, .aload_n 0, 1), (47, .invokevirtual 405, 3), (50, .istore_n 2, 1), (51, .aload_n 0, 1), (52, .aload_n 0, 1), (53, .getfield 92, 3), (56, .iconst 0, 1), (57, .invokevirtual 440, 3), (60, .aload_n 0, 1), (61, .dup, 1), (62, .getfield 339, 3), (65, .iconst 1, 1)]
theorem tb_X12_missed_0_ok : dck cX12_missed tb_X12_missed_0 = true := by decide +kernel
def tb_X12_missed_1 : Tb := [(66, .iload_n 1, 1), (67, .ishl, 1), (68, .ior, 1), (69, .putfield 339, 3), (72, .aload_n 0, 1), (73, .invokevirtual 402, 3), (76, .aload_n 0, 1), (77, .invokevirtual 405, 3), (80, .istore_n 3, 1), (81, .aload_n 0, 1), (82, .aload_n 0, 1), (83, .getfield 92, 3), (86, .iconst 0, 1), (87, .invokevirtual 440, 3), (90, .iload_n 2, 1), (91, .iload_n 3, 1), (92, .isub, 1), (93, .ireturn, 1)]
theorem tb_X12_missed_1_ok : dck cX12_missed tb_X12_missed_1 = true := by decide +kernel
def tb_X12_steps_0 : Tb := [(0, .aload_n 0, 1), (1, .iconst 0, 1), (2, .putfield 150, 3), (5, .aload_n 0, 1), (6, .iload_n 1, 1), (7, .invokevirtual 417, 3), (10, .ifCond .eq 25, 3), (13, .aload_n 0, 1), (14, .iload_n 2, 1), (15, .invokevirtual 408, 3), (18, .ifCond .eq 17, 3), (21, .aload_n 0, 1), (22, .aload_n 0, 1), (23, .getfield 77, 3), (26, .iload_n 1, 1), (27, .iaload, 1), (28, .iload_n 2, 1), (29, .invokevirtual 360, 3), (32, .goto 8, 3), (35, .aload_n 0, 1), (36, .iconst 1, 1), (37, .invokevirtual 318, 3), (40, .ireturn, 1)]
theorem tb_X12_steps_0_ok : dck cX12_steps tb_X12_steps_0 = true := by decide +kernel
def tb_X12_nearest_0 : Tb := [(0, .aload_n 0, 1), (1, .iconst 0, 1), (2, .putfield 150, 3), (5, .aload_n 0, 1), (6, .iload_n 1, 1), (7, .invokevirtual 408, 3), (10, .ifCond .ne 9, 3), (13, .aload_n 0, 1), (14, .iconst 1, 1), (15, .invokevirtual 318, 3), (18, .ireturn, 1), (19, .iconst (-1), 1), (20, .istore_n 2, 1), (21, .iconst 0, 1), (22, .istore_n 3, 1), (23, .iload_n 3, 1), (24, .aload_n 0, 1), (25, .getfield 40, 3), (28, .iconst 2, 1), (29, .iaload, 1), (30, .if_icmp .ge 41, 3), (33, .iload_n 2, 1), (34, .iconst (-1), 1), (35, .if_icmp .eq 28, 3), (38, .aload_n 0, 1), (39, .aload_n 0, 1), (40, .getfield 77, 3), (43, .iload_n 3, 1), (44, .iaload, 1), (45, .iload_n 1, 1), (46, .invokevirtual 360, 3), (49, .aload_n 0, 1), (50, .aload_n 0, 1), (51, .getfield 77, 3), (54, .iload_n 2, 1), (55, .iaload, 1), (56, .iload_n 1, 1), (57, .invokevirtual 360, 3), (60, .if_icmp .ge 5, 3), (63, .iload_n 3, 1)]
theorem tb_X12_nearest_0_ok : dck cX12_nearest tb_X12_nearest_0 = true := by decide +kernel
def tb_X12_nearest_1 : Tb := [(64, .istore_n 2, 1), (65, .iinc 3 1, 3), (68, .goto (-45), 3), (71, .iload_n 2, 1), (72, .ireturn, 1)]
theorem tb_X12_nearest_1_ok : dck cX12_nearest tb_X12_nearest_1 = true := by decide +kernel
def tb_X12_with_0 : Tb := [(0, .aload_n 0, 1), (1, .aload_n 0, 1), (2, .getfield 77, 3), (5, .iload_n 3, 1), (6, .iaload, 1), (7, .aload_n 0, 1), (8, .getfield 101, 3), (11, .iload_n 1, 1), (12, .iaload, 1), (13, .invokevirtual 360, 3), (16, .aload_n 0, 1), (17, .getfield 98, 3), (20, .iload_n 1, 1), (21, .iconst 1, 1), (22, .iadd, 1), (23, .bipush 6, 2), (25, .ishl, 1), (26, .iload_n 2, 1), (27, .iconst 1, 1), (28, .iload_n 3, 1), (29, .ishl, 1), (30, .ior, 1), (31, .iadd, 1), (32, .iaload, 1), (33, .iadd, 1), (34, .ireturn, 1)]
theorem tb_X12_with_0_ok : dck cX12_with tb_X12_with_0 = true := by decide +kernel
def tb_X12_tellLeast_0 : Tb := [(0, .iconst 1, 1), (1, .aload_n 0, 1), (2, .getfield 40, 3), (5, .iconst 2, 1), (6, .iaload, 1), (7, .ishl, 1), (8, .istore_n 2, 1), (9, .iconst 0, 1), (10, .istore_n 3, 1), (11, .iload_n 3, 1), (12, .iload_n 2, 1), (13, .if_icmp .ge 21, 3), (16, .aload_n 0, 1), (17, .getfield 98, 3), (20, .iload_n 1, 1), (21, .bipush 6, 2), (23, .ishl, 1), (24, .iload_n 3, 1), (25, .iadd, 1), (26, .iconst 0, 1), (27, .iastore, 1), (28, .iinc 3 1, 3), (31, .goto (-20), 3), (34, .iload_n 1, 1), (35, .iconst 1, 1), (36, .isub, 1), (37, .istore_n 3, 1), (38, .iload_n 3, 1), (39, .ifCond .lt 93, 3), (42, .iconst 0, 1), (43, .istore 4, 2), (45, .iload 4, 2), (47, .iload_n 2, 1), (48, .if_icmp .ge 78, 3), (51, .ldc 190, 2), (53, .istore 5, 2), (55, .iconst 0, 1), (56, .istore 6, 2), (58, .iload 6, 2), (60, .aload_n 0, 1)]
theorem tb_X12_tellLeast_0_ok : dck cX12_tellLeast tb_X12_tellLeast_0 = true := by decide +kernel
def tb_X12_tellLeast_1 : Tb := [(61, .getfield 40, 3), (64, .iconst 2, 1), (65, .iaload, 1), (66, .if_icmp .ge 35, 3), (69, .iload 4, 2), (71, .iload 6, 2), (73, .invokestatic 232, 3), (76, .ifCond .ne 19, 3), (79, .iload 5, 2), (81, .aload_n 0, 1), (82, .iload_n 3, 1), (83, .iload 4, 2), (85, .iload 6, 2), (87, .invokevirtual 466, 3), (90, .invokestatic 191, 3), (93, .istore 5, 2), (95, .iinc 6 1, 3), (98, .goto (-40), 3), (101, .aload_n 0, 1), (102, .getfield 98, 3), (105, .iload_n 3, 1), (106, .bipush 6, 2), (108, .ishl, 1), (109, .iload 4, 2), (111, .iadd, 1), (112, .ldc 190, 2), (114, .iload 5, 2), (116, .invokestatic 191, 3), (119, .iastore, 1), (120, .iinc 4 1, 3), (123, .goto (-78), 3), (126, .iinc 3 (-1), 3), (129, .goto (-91), 3), (132, .return_, 1)]
theorem tb_X12_tellLeast_1_ok : dck cX12_tellLeast tb_X12_tellLeast_1 = true := by decide +kernel
def tb_X12_sent_0 : Tb := [(0, .aload_n 0, 1), (1, .iconst 0, 1), (2, .putfield 150, 3), (5, .iload_n 1, 1), (6, .i2l, 1), (7, .lconst 0, 1), (8, .lconst 1, 1), (9, .aload_n 0, 1), (10, .invokevirtual 153, 3), (13, .lshl, 1), (14, .lconst 1, 1), (15, .lsub, 1), (16, .invokestatic 157, 3), (19, .ifCond .eq 12, 3), (22, .iload_n 1, 1), (23, .invokestatic 396, 3), (26, .bipush 6, 2), (28, .if_icmp .le 9, 3), (31, .aload_n 0, 1), (32, .iconst 2, 1), (33, .invokevirtual 318, 3), (36, .ireturn, 1), (37, .iload_n 2, 1), (38, .iconst (-1), 1), (39, .if_icmp .eq 25, 3), (42, .aload_n 0, 1), (43, .iload_n 2, 1), (44, .invokevirtual 408, 3), (47, .ifCond .eq 11, 3), (50, .iload_n 1, 1), (51, .iload_n 2, 1), (52, .invokestatic 232, 3), (55, .ifCond .ne 9, 3), (58, .aload_n 0, 1), (59, .iconst 1, 1), (60, .invokevirtual 318, 3), (63, .ireturn, 1), (64, .iconst 0, 1), (65, .istore_n 3, 1), (66, .iconst 0, 1)]
theorem tb_X12_sent_0_ok : dck cX12_sent tb_X12_sent_0 = true := by decide +kernel
def tb_X12_sent_1 : Tb := [(67, .istore 4, 2), (69, .iload 4, 2), (71, .aload_n 0, 1), (72, .invokevirtual 153, 3), (75, .if_icmp .ge 32, 3), (78, .iload_n 1, 1), (79, .iload 4, 2), (81, .invokestatic 232, 3), (84, .ifCond .ne 6, 3), (87, .goto 14, 3), (90, .aload_n 0, 1), (91, .getfield 101, 3), (94, .iload_n 3, 1), (95, .iload 4, 2), (97, .iastore, 1), (98, .iinc 3 1, 3), (101, .iinc 4 1, 3), (104, .goto (-35), 3), (107, .iload_n 3, 1), (108, .aload_n 0, 1), (109, .getfield 40, 3), (112, .iconst 2, 1), (113, .iaload, 1), (114, .if_icmp .le 6, 3), (117, .bipush (-2), 2), (119, .ireturn, 1), (120, .aload_n 0, 1), (121, .iload_n 3, 1), (122, .invokevirtual 469, 3), (125, .iload_n 2, 1), (126, .iconst (-1), 1), (127, .if_icmp .ne 10, 3), (130, .aload_n 0, 1), (131, .getfield 98, 3), (134, .iconst 0, 1), (135, .iaload, 1), (136, .ireturn, 1), (137, .iconst 0, 1), (138, .istore 4, 2), (140, .iconst 0, 1)]
theorem tb_X12_sent_1_ok : dck cX12_sent tb_X12_sent_1 = true := by decide +kernel
def tb_X12_sent_2 : Tb := [(141, .istore 5, 2), (143, .iload 5, 2), (145, .iload_n 3, 1), (146, .if_icmp .ge 96, 3), (149, .iconst (-1), 1), (150, .istore 6, 2), (152, .aload_n 0, 1), (153, .getfield 40, 3), (156, .iconst 2, 1), (157, .iaload, 1), (158, .iconst 1, 1), (159, .isub, 1), (160, .istore 7, 2), (162, .iload 7, 2), (164, .ifCond .lt 49, 3), (167, .iload 4, 2), (169, .iload 7, 2), (171, .invokestatic 232, 3), (174, .ifCond .ne 33, 3), (177, .aload_n 0, 1), (178, .iload 5, 2), (180, .iload 4, 2), (182, .iload 7, 2), (184, .invokevirtual 466, 3), (187, .aload_n 0, 1), (188, .getfield 98, 3), (191, .iload 5, 2), (193, .bipush 6, 2), (195, .ishl, 1), (196, .iload 4, 2), (198, .iadd, 1), (199, .iaload, 1), (200, .if_icmp .ne 7, 3), (203, .iload 7, 2), (205, .istore 6, 2), (207, .iinc 7 (-1), 3), (210, .goto (-48), 3), (213, .aload_n 0, 1), (214, .getfield 101, 3), (217, .iload 5, 2)]
theorem tb_X12_sent_2_ok : dck cX12_sent tb_X12_sent_2 = true := by decide +kernel
def tb_X12_sent_3 : Tb := [(219, .iaload, 1), (220, .iload_n 2, 1), (221, .if_icmp .ne 6, 3), (224, .iload 6, 2), (226, .ireturn, 1), (227, .iload 4, 2), (229, .iconst 1, 1), (230, .iload 6, 2), (232, .ishl, 1), (233, .ior, 1), (234, .istore 4, 2), (236, .iinc 5 1, 3), (239, .goto (-96), 3), (242, .iconst (-1), 1), (243, .ireturn, 1)]
theorem tb_X12_sent_3_ok : dck cX12_sent tb_X12_sent_3 = true := by decide +kernel
def tb_X12_see_0 : Tb := [(0, .aload_n 0, 1), (1, .iconst 0, 1), (2, .putfield 150, 3), (5, .aload_n 0, 1), (6, .iload_n 1, 1), (7, .invokevirtual 408, 3), (10, .ifCond .ne 9, 3), (13, .aload_n 0, 1), (14, .iconst 1, 1), (15, .invokevirtual 318, 3), (18, .ireturn, 1), (19, .aload_n 0, 1), (20, .getfield 345, 3), (23, .bipush 8, 2), (25, .if_icmp .eq 27, 3), (28, .iload_n 2, 1), (29, .i2l, 1), (30, .lconst 0, 1), (31, .ldc2_w 424, 3), (34, .invokestatic 157, 3), (37, .ifCond .eq 15, 3), (40, .iload_n 3, 1), (41, .i2l, 1), (42, .lconst 0, 1), (43, .ldc2_w 461, 3), (46, .invokestatic 157, 3), (49, .ifCond .ne 9, 3), (52, .aload_n 0, 1), (53, .iconst 2, 1), (54, .invokevirtual 426, 3), (57, .ireturn, 1), (58, .aload_n 0, 1), (59, .getfield 104, 3), (62, .aload_n 0, 1), (63, .getfield 345, 3), (66, .iload_n 1, 1), (67, .iastore, 1), (68, .aload_n 0, 1), (69, .getfield 107, 3), (72, .aload_n 0, 1)]
theorem tb_X12_see_0_ok : dck cX12_see tb_X12_see_0 = true := by decide +kernel
def tb_X12_see_1 : Tb := [(73, .getfield 345, 3), (76, .iload_n 2, 1), (77, .iastore, 1), (78, .aload_n 0, 1), (79, .getfield 110, 3), (82, .aload_n 0, 1), (83, .getfield 345, 3), (86, .iload_n 3, 1), (87, .iastore, 1), (88, .aload_n 0, 1), (89, .dup, 1), (90, .getfield 345, 3), (93, .iconst 1, 1), (94, .iadd, 1), (95, .putfield 345, 3), (98, .aload_n 0, 1), (99, .getfield 345, 3), (102, .ireturn, 1)]
theorem tb_X12_see_1_ok : dck cX12_see tb_X12_see_1 = true := by decide +kernel
def tb_X12_isAsSeen_0 : Tb := [(0, .aload_n 0, 1), (1, .aload_n 0, 1), (2, .getfield 113, 3), (5, .iconst 0, 1), (6, .invokevirtual 420, 3), (9, .iconst 0, 1), (10, .istore_n 1, 1), (11, .iconst 0, 1), (12, .istore_n 2, 1), (13, .iload_n 2, 1), (14, .aload_n 0, 1), (15, .getfield 345, 3), (18, .if_icmp .ge 20, 3), (21, .iload_n 1, 1), (22, .aload_n 0, 1), (23, .getfield 107, 3), (26, .iload_n 2, 1), (27, .iaload, 1), (28, .invokestatic 380, 3), (31, .istore_n 1, 1), (32, .iinc 2 1, 3), (35, .goto (-22), 3), (38, .iconst 1, 1), (39, .istore_n 2, 1), (40, .iconst 0, 1), (41, .istore_n 3, 1), (42, .iload_n 3, 1), (43, .iload_n 1, 1), (44, .if_icmp .gt 78, 3), (47, .iload_n 2, 1), (48, .ifCond .eq 74, 3), (51, .iconst 0, 1), (52, .istore 4, 2), (54, .iload 4, 2), (56, .aload_n 0, 1), (57, .getfield 345, 3), (60, .if_icmp .ge 52, 3), (63, .iload_n 2, 1), (64, .ifCond .eq 40, 3), (67, .aload_n 0, 1)]
theorem tb_X12_isAsSeen_0_ok : dck cX12_isAsSeen tb_X12_isAsSeen_0 = true := by decide +kernel
def tb_X12_isAsSeen_1 : Tb := [(68, .getfield 107, 3), (71, .iload 4, 2), (73, .iaload, 1), (74, .iload_n 3, 1), (75, .if_icmp .ne 25, 3), (78, .aload_n 0, 1), (79, .getfield 75, 3), (82, .aload_n 0, 1), (83, .getfield 104, 3), (86, .iload 4, 2), (88, .iaload, 1), (89, .iaload, 1), (90, .aload_n 0, 1), (91, .getfield 110, 3), (94, .iload 4, 2), (96, .iaload, 1), (97, .if_icmp .ne 7, 3), (100, .iconst 1, 1), (101, .goto 4, 3), (104, .iconst 0, 1), (105, .istore_n 2, 1), (106, .iinc 4 1, 3), (109, .goto (-55), 3), (112, .aload_n 0, 1), (113, .invokevirtual 402, 3), (116, .iinc 3 1, 3), (119, .goto (-77), 3), (122, .aload_n 0, 1), (123, .aload_n 0, 1), (124, .getfield 113, 3), (127, .iconst 0, 1), (128, .invokevirtual 440, 3), (131, .iload_n 2, 1), (132, .ireturn, 1)]
theorem tb_X12_isAsSeen_1_ok : dck cX12_isAsSeen tb_X12_isAsSeen_1 = true := by decide +kernel
def tb_X12_tellFits_0 : Tb := [(0, .aload_n 0, 1), (1, .iconst 0, 1), (2, .putfield 472, 3), (5, .iconst 0, 1), (6, .istore_n 1, 1), (7, .iload_n 1, 1), (8, .aload_n 0, 1), (9, .getfield 40, 3), (12, .iconst 2, 1), (13, .iaload, 1), (14, .if_icmp .ge 84, 3), (17, .aload_n 0, 1), (18, .getfield 65, 3), (21, .iload_n 1, 1), (22, .iaload, 1), (23, .istore_n 2, 1), (24, .iconst 0, 1), (25, .istore_n 3, 1), (26, .iload_n 3, 1), (27, .bipush 10, 2), (29, .if_icmp .ge 56, 3), (32, .aload_n 0, 1), (33, .getfield 65, 3), (36, .iload_n 1, 1), (37, .iload_n 3, 1), (38, .iastore, 1), (39, .iload_n 3, 1), (40, .iload_n 2, 1), (41, .if_icmp .eq 38, 3), (44, .aload_n 0, 1), (45, .invokevirtual 475, 3), (48, .ifCond .ne 6, 3), (51, .goto 28, 3), (54, .aload_n 0, 1), (55, .getfield 116, 3), (58, .aload_n 0, 1), (59, .getfield 472, 3), (62, .bipush 10, 2), (64, .iload_n 1, 1), (65, .imul, 1)]
theorem tb_X12_tellFits_0_ok : dck cX12_tellFits tb_X12_tellFits_0 = true := by decide +kernel
def tb_X12_tellFits_1 : Tb := [(66, .iload_n 3, 1), (67, .iadd, 1), (68, .iastore, 1), (69, .aload_n 0, 1), (70, .dup, 1), (71, .getfield 472, 3), (74, .iconst 1, 1), (75, .iadd, 1), (76, .putfield 472, 3), (79, .iinc 3 1, 3), (82, .goto (-56), 3), (85, .aload_n 0, 1), (86, .getfield 65, 3), (89, .iload_n 1, 1), (90, .iload_n 2, 1), (91, .iastore, 1), (92, .iinc 1 1, 3), (95, .goto (-88), 3), (98, .return_, 1)]
theorem tb_X12_tellFits_1_ok : dck cX12_tellFits tb_X12_tellFits_1 = true := by decide +kernel
def tb_X12_skilled_0 : Tb := [(0, .aload_n 0, 1), (1, .iconst 0, 1), (2, .putfield 150, 3), (5, .iload_n 1, 1), (6, .i2l, 1), (7, .lconst 0, 1), (8, .ldc2_w 479, 3), (11, .invokestatic 157, 3), (14, .ifCond .ne 9, 3), (17, .aload_n 0, 1), (18, .iconst 1, 1), (19, .invokevirtual 318, 3), (22, .ireturn, 1), (23, .iload_n 1, 1), (24, .iconst 2, 1), (25, .if_icmp .ne 16, 3), (28, .aload_n 0, 1), (29, .invokevirtual 475, 3), (32, .ifCond .eq 7, 3), (35, .iconst 1, 1), (36, .goto 4, 3), (39, .iconst 0, 1), (40, .ireturn, 1), (41, .aload_n 0, 1), (42, .invokevirtual 481, 3), (45, .iload_n 1, 1), (46, .ifCond .ne 10, 3), (49, .aload_n 0, 1), (50, .getfield 472, 3), (53, .goto 20, 3), (56, .aload_n 0, 1), (57, .getfield 472, 3), (60, .ifCond .ne 7, 3), (63, .iconst (-1), 1), (64, .goto 9, 3), (67, .aload_n 0, 1), (68, .getfield 116, 3), (71, .iconst 0, 1), (72, .iaload, 1), (73, .ireturn, 1)]
theorem tb_X12_skilled_0_ok : dck cX12_skilled tb_X12_skilled_0 = true := by decide +kernel
def tb_X12_unlike_0 : Tb := [(0, .iconst 0, 1), (1, .istore_n 2, 1), (2, .iconst 0, 1), (3, .istore_n 3, 1), (4, .iload_n 3, 1), (5, .aload_n 0, 1), (6, .getfield 472, 3), (9, .if_icmp .ge 78, 3), (12, .iconst 1, 1), (13, .istore 4, 2), (15, .iconst 0, 1), (16, .istore 5, 2), (18, .iload 5, 2), (20, .iload_n 3, 1), (21, .if_icmp .ge 47, 3), (24, .iload 4, 2), (26, .ifCond .eq 42, 3), (29, .aload_n 0, 1), (30, .getfield 119, 3), (33, .bipush 30, 2), (35, .iload 5, 2), (37, .imul, 1), (38, .iload_n 1, 1), (39, .iadd, 1), (40, .iaload, 1), (41, .aload_n 0, 1), (42, .getfield 119, 3), (45, .bipush 30, 2), (47, .iload_n 3, 1), (48, .imul, 1), (49, .iload_n 1, 1), (50, .iadd, 1), (51, .iaload, 1), (52, .if_icmp .eq 7, 3), (55, .iconst 1, 1), (56, .goto 4, 3), (59, .iconst 0, 1), (60, .istore 4, 2), (62, .iinc 5 1, 3), (65, .goto (-47), 3)]
theorem tb_X12_unlike_0_ok : dck cX12_unlike tb_X12_unlike_0 = true := by decide +kernel
def tb_X12_unlike_1 : Tb := [(68, .iload_n 2, 1), (69, .iload 4, 2), (71, .ifCond .eq 7, 3), (74, .iconst 1, 1), (75, .goto 4, 3), (78, .iconst 0, 1), (79, .iadd, 1), (80, .istore_n 2, 1), (81, .iinc 3 1, 3), (84, .goto (-80), 3), (87, .iload_n 2, 1), (88, .ireturn, 1)]
theorem tb_X12_unlike_1_ok : dck cX12_unlike tb_X12_unlike_1 = true := by decide +kernel
def tb_X12_look_0 : Tb := [(0, .aload_n 0, 1), (1, .iconst 0, 1), (2, .putfield 150, 3), (5, .iload_n 1, 1), (6, .ifCond .lt 8, 3), (9, .iload_n 1, 1), (10, .iconst 1, 1), (11, .if_icmp .le 9, 3), (14, .aload_n 0, 1), (15, .iconst 1, 1), (16, .invokevirtual 318, 3), (19, .ireturn, 1), (20, .aload_n 0, 1), (21, .invokevirtual 481, 3), (24, .aload_n 0, 1), (25, .aload_n 0, 1), (26, .getfield 92, 3), (29, .iconst 0, 1), (30, .invokevirtual 420, 3), (33, .iconst 0, 1), (34, .istore_n 2, 1), (35, .iload_n 2, 1), (36, .aload_n 0, 1), (37, .getfield 472, 3), (40, .if_icmp .ge 99, 3), (43, .aload_n 0, 1), (44, .getfield 116, 3), (47, .iload_n 2, 1), (48, .iaload, 1), (49, .bipush 10, 2), (51, .idiv, 1), (52, .istore_n 3, 1), (53, .aload_n 0, 1), (54, .getfield 65, 3), (57, .iload_n 3, 1), (58, .iaload, 1), (59, .istore 4, 2), (61, .aload_n 0, 1), (62, .getfield 65, 3), (65, .iload_n 3, 1)]
theorem tb_X12_look_0_ok : dck cX12_look tb_X12_look_0 = true := by decide +kernel
def tb_X12_look_1 : Tb := [(66, .aload_n 0, 1), (67, .getfield 116, 3), (70, .iload_n 2, 1), (71, .iaload, 1), (72, .bipush 10, 2), (74, .irem, 1), (75, .iastore, 1), (76, .aload_n 0, 1), (77, .iconst 5, 1), (78, .invokevirtual 432, 3), (81, .iconst 0, 1), (82, .istore 5, 2), (84, .iload 5, 2), (86, .bipush 30, 2), (88, .if_icmp .ge 28, 3), (91, .aload_n 0, 1), (92, .getfield 119, 3), (95, .bipush 30, 2), (97, .iload_n 2, 1), (98, .imul, 1), (99, .iload 5, 2), (101, .iadd, 1), (102, .aload_n 0, 1), (103, .getfield 75, 3), (106, .iload 5, 2), (108, .iaload, 1), (109, .iastore, 1), (110, .iinc 5 1, 3), (113, .goto (-29), 3), (116, .aload_n 0, 1), (117, .getfield 65, 3), (120, .iload_n 3, 1), (121, .iload 4, 2), (123, .iastore, 1), (124, .aload_n 0, 1), (125, .aload_n 0, 1), (126, .getfield 92, 3), (129, .iconst 0, 1), (130, .invokevirtual 440, 3), (133, .iinc 2 1, 3)]
theorem tb_X12_look_1_ok : dck cX12_look tb_X12_look_1 = true := by decide +kernel
def tb_X12_look_2 : Tb := [(136, .goto (-101), 3), (139, .iconst (-1), 1), (140, .istore_n 2, 1), (141, .iconst 0, 1), (142, .istore_n 3, 1), (143, .iconst 0, 1), (144, .istore 4, 2), (146, .iload 4, 2), (148, .aload_n 0, 1), (149, .invokevirtual 153, 3), (152, .if_icmp .ge 32, 3), (155, .aload_n 0, 1), (156, .iload 4, 2), (158, .invokevirtual 484, 3), (161, .istore 5, 2), (163, .iload 5, 2), (165, .iload_n 3, 1), (166, .if_icmp .gt 6, 3), (169, .goto 9, 3), (172, .iload 4, 2), (174, .istore_n 2, 1), (175, .iload 5, 2), (177, .istore_n 3, 1), (178, .iinc 4 1, 3), (181, .goto (-35), 3), (184, .iload_n 1, 1), (185, .ifCond .ne 7, 3), (188, .iload_n 2, 1), (189, .goto 4, 3), (192, .iload_n 3, 1), (193, .ireturn, 1)]
theorem tb_X12_look_2_ok : dck cX12_look tb_X12_look_2 = true := by decide +kernel
def tb_X12_forget_0 : Tb := [(0, .aload_n 0, 1), (1, .iconst 0, 1), (2, .putfield 150, 3), (5, .aload_n 0, 1), (6, .iconst 0, 1), (7, .putfield 345, 3), (10, .return_, 1)]
theorem tb_X12_forget_0_ok : dck cX12_forget tb_X12_forget_0 = true := by decide +kernel
def tb_X12_tellGains_0 : Tb := [(0, .aload_n 0, 1), (1, .aload_n 0, 1), (2, .getfield 92, 3), (5, .iconst 0, 1), (6, .invokevirtual 420, 3), (9, .iconst 0, 1), (10, .istore_n 3, 1), (11, .iload_n 3, 1), (12, .iconst 4, 1), (13, .if_icmp .ge 144, 3), (16, .aload_n 0, 1), (17, .aload_n 0, 1), (18, .getfield 339, 3), (21, .iconst 1, 1), (22, .iload_n 1, 1), (23, .ishl, 1), (24, .iconst 1, 1), (25, .iload_n 2, 1), (26, .ishl, 1), (27, .ior, 1), (28, .iconst (-1), 1), (29, .ixor, 1), (30, .iand, 1), (31, .iload_n 3, 1), (32, .iconst 2, 1), (33, .idiv, 1), (34, .iconst 1, 1), (35, .if_icmp .ne 7, 3), (38, .iconst 0, 1), (39, .goto 6, 3), (42, .iconst 1, 1), (43, .iload_n 1, 1), (44, .ishl, 1), (45, .ior, 1), (46, .iload_n 3, 1), (47, .iconst 2, 1), (48, .irem, 1), (49, .iconst 1, 1), (50, .if_icmp .ne 7, 3), (53, .iconst 0, 1)]
theorem tb_X12_tellGains_0_ok : dck cX12_tellGains tb_X12_tellGains_0 = true := by decide +kernel
def tb_X12_tellGains_1 : Tb := [(54, .goto 6, 3), (57, .iconst 1, 1), (58, .iload_n 2, 1), (59, .ishl, 1), (60, .ior, 1), (61, .putfield 339, 3), (64, .aload_n 0, 1), (65, .invokevirtual 402, 3), (68, .aload_n 0, 1), (69, .getfield 122, 3), (72, .iconst 2, 1), (73, .iload_n 3, 1), (74, .imul, 1), (75, .aload_n 0, 1), (76, .getfield 75, 3), (79, .aload_n 0, 1), (80, .getfield 77, 3), (83, .iload_n 1, 1), (84, .iaload, 1), (85, .iaload, 1), (86, .bipush 10, 2), (88, .aload_n 0, 1), (89, .getfield 393, 3), (92, .invokestatic 396, 3), (95, .imul, 1), (96, .isub, 1), (97, .iconst 2, 1), (98, .iload_n 3, 1), (99, .iconst 2, 1), (100, .idiv, 1), (101, .imul, 1), (102, .isub, 1), (103, .iastore, 1), (104, .aload_n 0, 1), (105, .getfield 122, 3), (108, .iconst 2, 1), (109, .iload_n 3, 1), (110, .imul, 1), (111, .iconst 1, 1), (112, .iadd, 1)]
theorem tb_X12_tellGains_1_ok : dck cX12_tellGains tb_X12_tellGains_1 = true := by decide +kernel
def tb_X12_tellGains_2 : Tb := [(113, .aload_n 0, 1), (114, .getfield 75, 3), (117, .aload_n 0, 1), (118, .getfield 77, 3), (121, .iload_n 2, 1), (122, .iaload, 1), (123, .iaload, 1), (124, .bipush 10, 2), (126, .aload_n 0, 1), (127, .getfield 393, 3), (130, .invokestatic 396, 3), (133, .imul, 1), (134, .isub, 1), (135, .iconst 2, 1), (136, .iload_n 3, 1), (137, .iconst 2, 1), (138, .irem, 1), (139, .imul, 1), (140, .isub, 1), (141, .iastore, 1), (142, .aload_n 0, 1), (143, .aload_n 0, 1), (144, .getfield 92, 3), (147, .iconst 0, 1), (148, .invokevirtual 440, 3), (151, .iinc 3 1, 3), (154, .goto (-143), 3), (157, .return_, 1)]
theorem tb_X12_tellGains_2_ok : dck cX12_tellGains tb_X12_tellGains_2 = true := by decide +kernel
def tb_X12_game_0 : Tb := [(0, .aload_n 0, 1), (1, .iconst 0, 1), (2, .putfield 150, 3), (5, .aload_n 0, 1), (6, .iload_n 1, 1), (7, .invokevirtual 417, 3), (10, .ifCond .eq 20, 3), (13, .aload_n 0, 1), (14, .iload_n 2, 1), (15, .invokevirtual 417, 3), (18, .ifCond .eq 12, 3), (21, .iload_n 3, 1), (22, .ifCond .lt 8, 3), (25, .iload_n 3, 1), (26, .iconst 1, 1), (27, .if_icmp .le 9, 3), (30, .aload_n 0, 1), (31, .iconst 1, 1), (32, .invokevirtual 318, 3), (35, .ireturn, 1), (36, .iload_n 1, 1), (37, .iload_n 2, 1), (38, .if_icmp .ne 9, 3), (41, .aload_n 0, 1), (42, .iconst 2, 1), (43, .invokevirtual 318, 3), (46, .ireturn, 1), (47, .aload_n 0, 1), (48, .iload_n 1, 1), (49, .iload_n 2, 1), (50, .invokevirtual 487, 3), (53, .iconst 0, 1), (54, .istore 4, 2), (56, .iconst (-1), 1), (57, .istore 5, 2), (59, .iconst 0, 1), (60, .istore 6, 2), (62, .iload 6, 2), (64, .iconst 4, 1), (65, .if_icmp .ge 90, 3)]
theorem tb_X12_game_0_ok : dck cX12_game tb_X12_game_0 = true := by decide +kernel
def tb_X12_game_1 : Tb := [(68, .aload_n 0, 1), (69, .getfield 122, 3), (72, .iconst 2, 1), (73, .iload 6, 2), (75, .iconst 2, 1), (76, .ixor, 1), (77, .imul, 1), (78, .iaload, 1), (79, .aload_n 0, 1), (80, .getfield 122, 3), (83, .iconst 2, 1), (84, .iload 6, 2), (86, .imul, 1), (87, .iaload, 1), (88, .if_icmp .gt 61, 3), (91, .aload_n 0, 1), (92, .getfield 122, 3), (95, .iconst 2, 1), (96, .iload 6, 2), (98, .iconst 1, 1), (99, .ixor, 1), (100, .imul, 1), (101, .iconst 1, 1), (102, .iadd, 1), (103, .iaload, 1), (104, .aload_n 0, 1), (105, .getfield 122, 3), (108, .iconst 2, 1), (109, .iload 6, 2), (111, .imul, 1), (112, .iconst 1, 1), (113, .iadd, 1), (114, .iaload, 1), (115, .if_icmp .le 6, 3), (118, .goto 31, 3), (121, .iinc 4 1, 3), (124, .iload 5, 2), (126, .iconst (-1), 1), (127, .if_icmp .ne 18, 3), (130, .bipush 10, 2)]
theorem tb_X12_game_1_ok : dck cX12_game tb_X12_game_1 = true := by decide +kernel
def tb_X12_game_2 : Tb := [(132, .iload 6, 2), (134, .iconst 2, 1), (135, .idiv, 1), (136, .imul, 1), (137, .iload 6, 2), (139, .iconst 2, 1), (140, .irem, 1), (141, .iadd, 1), (142, .goto 5, 3), (145, .iload 5, 2), (147, .istore 5, 2), (149, .iinc 6 1, 3), (152, .goto (-90), 3), (155, .iload_n 3, 1), (156, .ifCond .ne 8, 3), (159, .iload 4, 2), (161, .goto 5, 3), (164, .iload 5, 2), (166, .ireturn, 1)]
theorem tb_X12_game_2_ok : dck cX12_game tb_X12_game_2 = true := by decide +kernel
end
section
def tb_X12_drawOf_0 : Tb := [(0, .aload_n 0, 1), (1, .aload_n 0, 1), (2, .getfield 490, 3), (5, .ldc_w 493, 3), (8, .imul, 1), (9, .sipush 12345, 3), (12, .iadd, 1), (13, .putfield 490, 3), (16, .aload_n 0, 1), (17, .getfield 490, 3), (20, .bipush 16, 2), (22, .ishr, 1), (23, .sipush 32767, 3), (26, .iand, 1), (27, .iload_n 1, 1), (28, .irem, 1), (29, .ireturn, 1)]
theorem tb_X12_drawOf_0_ok : dck cX12_drawOf tb_X12_drawOf_0 = true := by decide +kernel
def tb_X12_something_0 : Tb := [(0, .aload_n 0, 1), (1, .iconst 5, 1), (2, .invokevirtual 494, 3), (5, .istore_n 1, 1), (6, .iload_n 1, 1), (7, .ifCond .ne 17, 3), (10, .aload_n 0, 1), (11, .aload_n 0, 1), (12, .aload_n 0, 1), (13, .invokevirtual 153, 3), (16, .invokevirtual 494, 3), (19, .bipush 20, 2), (21, .invokevirtual 386, 3), (24, .iload_n 1, 1), (25, .iconst 1, 1), (26, .if_icmp .ne 37, 3), (29, .aload_n 0, 1), (30, .getfield 40, 3), (33, .iconst 2, 1), (34, .iaload, 1), (35, .ifCond .le 28, 3), (38, .aload_n 0, 1), (39, .aload_n 0, 1), (40, .getfield 40, 3), (43, .iconst 2, 1), (44, .iaload, 1), (45, .invokevirtual 494, 3), (48, .istore_n 2, 1), (49, .aload_n 0, 1), (50, .getfield 77, 3), (53, .iload_n 2, 1), (54, .aload_n 0, 1), (55, .aload_n 0, 1), (56, .invokevirtual 153, 3), (59, .invokevirtual 494, 3), (62, .iastore, 1), (63, .iload_n 1, 1), (64, .iconst 2, 1), (65, .if_icmp .ne 18, 3), (68, .aload_n 0, 1)]
theorem tb_X12_something_0_ok : dck cX12_something tb_X12_something_0 = true := by decide +kernel
def tb_X12_something_1 : Tb := [(69, .bipush 99, 2), (71, .aload_n 0, 1), (72, .getfield 147, 3), (75, .iconst 5, 1), (76, .iadd, 1), (77, .invokestatic 191, 3), (80, .putfield 147, 3), (83, .return_, 1)]
theorem tb_X12_something_1_ok : dck cX12_something tb_X12_something_1 = true := by decide +kernel
def tb_X12_skies_0 : Tb := [(0, .aload_n 0, 1), (1, .iconst 0, 1), (2, .putfield 150, 3), (5, .iload_n 3, 1), (6, .i2l, 1), (7, .lconst 0, 1), (8, .ldc2_w 479, 3), (11, .invokestatic 157, 3), (14, .ifCond .ne 9, 3), (17, .aload_n 0, 1), (18, .iconst 1, 1), (19, .invokevirtual 318, 3), (22, .ireturn, 1), (23, .iload_n 2, 1), (24, .i2l, 1), (25, .lconst 0, 1), (26, .ldc2_w 443, 3), (29, .invokestatic 157, 3), (32, .ifCond .ne 9, 3), (35, .aload_n 0, 1), (36, .iconst 2, 1), (37, .invokevirtual 318, 3), (40, .ireturn, 1), (41, .aload_n 0, 1), (42, .aload_n 0, 1), (43, .getfield 92, 3), (46, .iconst 0, 1), (47, .invokevirtual 420, 3), (50, .aload_n 0, 1), (51, .iload_n 1, 1), (52, .putfield 490, 3), (55, .iconst 0, 1), (56, .istore 4, 2), (58, .iconst 0, 1), (59, .istore 5, 2), (61, .iload 5, 2), (63, .iload_n 2, 1), (64, .if_icmp .ge 29, 3), (67, .aload_n 0, 1), (68, .invokevirtual 497, 3)]
theorem tb_X12_skies_0_ok : dck cX12_skies tb_X12_skies_0 = true := by decide +kernel
def tb_X12_skies_1 : Tb := [(71, .aload_n 0, 1), (72, .invokevirtual 402, 3), (75, .iload 4, 2), (77, .aload_n 0, 1), (78, .getfield 393, 3), (81, .invokestatic 396, 3), (84, .iadd, 1), (85, .istore 4, 2), (87, .iinc 5 1, 3), (90, .goto (-29), 3), (93, .iload_n 3, 1), (94, .ifCond .ne 8, 3), (97, .iload 4, 2), (99, .goto 19, 3), (102, .iload_n 3, 1), (103, .iconst 1, 1), (104, .if_icmp .ne 10, 3), (107, .aload_n 0, 1), (108, .invokevirtual 405, 3), (111, .goto 7, 3), (114, .aload_n 0, 1), (115, .getfield 147, 3), (118, .istore 5, 2), (120, .aload_n 0, 1), (121, .aload_n 0, 1), (122, .getfield 92, 3), (125, .iconst 0, 1), (126, .invokevirtual 440, 3), (129, .iload 5, 2), (131, .ireturn, 1)]
theorem tb_X12_skies_1_ok : dck cX12_skies tb_X12_skies_1 = true := by decide +kernel
def tb_X12_image_0 : Tb := [(0, .aload_n 0, 1), (1, .iconst 0, 1), (2, .putfield 150, 3), (5, .aload_n 0, 1), (6, .iconst 1, 1), (7, .putfield 348, 3), (10, .aload_n 0, 1), (11, .aload_n 0, 1), (12, .getfield 342, 3), (15, .putfield 500, 3), (18, .aload_n 0, 1), (19, .aload_n 0, 1), (20, .getfield 345, 3), (23, .putfield 503, 3), (26, .aload_n 0, 1), (27, .aload_n 0, 1), (28, .getfield 125, 3), (31, .iconst 0, 1), (32, .invokevirtual 420, 3), (35, .aload_n 0, 1), (36, .getfield 128, 3), (39, .aload_n 0, 1), (40, .getfield 80, 3), (43, .invokestatic 454, 3), (46, .aload_n 0, 1), (47, .getfield 131, 3), (50, .aload_n 0, 1), (51, .getfield 104, 3), (54, .invokestatic 454, 3), (57, .aload_n 0, 1), (58, .getfield 134, 3), (61, .aload_n 0, 1), (62, .getfield 107, 3), (65, .invokestatic 454, 3), (68, .aload_n 0, 1), (69, .getfield 137, 3), (72, .aload_n 0, 1), (73, .getfield 110, 3), (76, .invokestatic 454, 3), (79, .aload_n 0, 1)]
theorem tb_X12_image_0_ok : dck cX12_image tb_X12_image_0 = true := by decide +kernel
def tb_X12_image_1 : Tb := [(80, .getfield 140, 3), (83, .aload_n 0, 1), (84, .getfield 62, 3), (87, .invokestatic 454, 3), (90, .return_, 1)]
theorem tb_X12_image_1_ok : dck cX12_image tb_X12_image_1 = true := by decide +kernel
def tb_X12_restore_0 : Tb := [(0, .aload_n 0, 1), (1, .iconst 0, 1), (2, .putfield 150, 3), (5, .aload_n 0, 1), (6, .getfield 348, 3), (9, .ifCond .ne 5, 3), (12, .iconst 0, 1), (13, .ireturn, 1), (14, .aload_n 0, 1), (15, .aload_n 0, 1), (16, .getfield 500, 3), (19, .putfield 342, 3), (22, .aload_n 0, 1), (23, .aload_n 0, 1), (24, .getfield 503, 3), (27, .putfield 345, 3), (30, .aload_n 0, 1), (31, .aload_n 0, 1), (32, .getfield 125, 3), (35, .iconst 0, 1), (36, .invokevirtual 440, 3), (39, .aload_n 0, 1), (40, .getfield 80, 3), (43, .aload_n 0, 1), (44, .getfield 128, 3), (47, .invokestatic 454, 3), (50, .aload_n 0, 1), (51, .getfield 104, 3), (54, .aload_n 0, 1), (55, .getfield 131, 3), (58, .invokestatic 454, 3), (61, .aload_n 0, 1), (62, .getfield 107, 3), (65, .aload_n 0, 1), (66, .getfield 134, 3), (69, .invokestatic 454, 3), (72, .aload_n 0, 1), (73, .getfield 110, 3), (76, .aload_n 0, 1), (77, .getfield 137, 3)]
theorem tb_X12_restore_0_ok : dck cX12_restore tb_X12_restore_0 = true := by decide +kernel
def tb_X12_restore_1 : Tb := [(80, .invokestatic 454, 3), (83, .aload_n 0, 1), (84, .getfield 62, 3), (87, .aload_n 0, 1), (88, .getfield 140, 3), (91, .invokestatic 454, 3), (94, .iconst 1, 1), (95, .ireturn, 1)]
theorem tb_X12_restore_1_ok : dck cX12_restore tb_X12_restore_1 = true := by decide +kernel
def tb_L_coast_0 : Tb := [(0, .aload_n 2, 1), (1, .iconst 0, 1), (2, .aload_n 0, 1), (3, .iload_n 1, 1), (4, .invokevirtual 7, 3), (7, .i2l, 1), (8, .lastore, 1), (9, .goto 6, 3), (12, .astore_n 3, 1), (13, .iconst 1, 1), (14, .ireturn, 1), (15, .iconst 0, 1), (16, .ireturn, 1)]
theorem tb_L_coast_0_ok : dck cL_coast tb_L_coast_0 = true := by decide +kernel
def tb_L_count_0 : Tb := [(0, .aload_n 2, 1), (1, .iconst 0, 1), (2, .aload_n 0, 1), (3, .iload_n 1, 1), (4, .invokevirtual 15, 3), (7, .i2l, 1), (8, .lastore, 1), (9, .goto 6, 3), (12, .astore_n 3, 1), (13, .iconst 1, 1), (14, .ireturn, 1), (15, .iconst 0, 1), (16, .ireturn, 1)]
theorem tb_L_count_0_ok : dck cL_count tb_L_count_0 = true := by decide +kernel
def tb_L_cell_0 : Tb := [(0, .aload_n 3, 1), (1, .iconst 0, 1), (2, .aload_n 0, 1), (3, .iload_n 1, 1), (4, .iload_n 2, 1), (5, .invokevirtual 20, 3), (8, .i2l, 1), (9, .lastore, 1), (10, .goto 7, 3), (13, .astore 4, 2), (15, .iconst 1, 1), (16, .ireturn, 1), (17, .iconst 0, 1), (18, .ireturn, 1)]
theorem tb_L_cell_0_ok : dck cL_cell tb_L_cell_0 = true := by decide +kernel
def tb_L_girl_0 : Tb := [(0, .aload_n 3, 1), (1, .iconst 0, 1), (2, .aload_n 0, 1), (3, .iload_n 1, 1), (4, .iload_n 2, 1), (5, .invokevirtual 24, 3), (8, .i2l, 1), (9, .lastore, 1), (10, .goto 7, 3), (13, .astore 4, 2), (15, .iconst 1, 1), (16, .ireturn, 1), (17, .iconst 0, 1), (18, .ireturn, 1)]
theorem tb_L_girl_0_ok : dck cL_girl tb_L_girl_0 = true := by decide +kernel
def tb_L_rest_0 : Tb := [(0, .aload_n 3, 1), (1, .iconst 0, 1), (2, .aload_n 0, 1), (3, .iload_n 1, 1), (4, .iload_n 2, 1), (5, .invokevirtual 27, 3), (8, .ifCond .eq 7, 3), (11, .lconst 1, 1), (12, .goto 4, 3), (15, .lconst 0, 1), (16, .lastore, 1), (17, .goto 7, 3), (20, .astore 4, 2), (22, .iconst 1, 1), (23, .ireturn, 1), (24, .iconst 0, 1), (25, .ireturn, 1)]
theorem tb_L_rest_0_ok : dck cL_rest tb_L_rest_0 = true := by decide +kernel
def tb_L_go_0 : Tb := [(0, .aload_n 3, 1), (1, .iconst 0, 1), (2, .aload_n 0, 1), (3, .iload_n 1, 1), (4, .iload_n 2, 1), (5, .invokevirtual 31, 3), (8, .i2l, 1), (9, .lastore, 1), (10, .goto 7, 3), (13, .astore 4, 2), (15, .iconst 1, 1), (16, .ireturn, 1), (17, .iconst 0, 1), (18, .ireturn, 1)]
theorem tb_L_go_0_ok : dck cL_go tb_L_go_0 = true := by decide +kernel
def tb_L_peg_0 : Tb := [(0, .aload_n 3, 1), (1, .iconst 0, 1), (2, .aload_n 0, 1), (3, .iload_n 1, 1), (4, .iload_n 2, 1), (5, .invokevirtual 34, 3), (8, .i2l, 1), (9, .lastore, 1), (10, .goto 7, 3), (13, .astore 4, 2), (15, .iconst 1, 1), (16, .ireturn, 1), (17, .iconst 0, 1), (18, .ireturn, 1)]
theorem tb_L_peg_0_ok : dck cL_peg tb_L_peg_0 = true := by decide +kernel
def tb_L_then_0 : Tb := [(0, .aload_n 3, 1), (1, .iconst 0, 1), (2, .aload_n 0, 1), (3, .iload_n 1, 1), (4, .iload_n 2, 1), (5, .invokevirtual 38, 3), (8, .i2l, 1), (9, .lastore, 1), (10, .goto 11, 3), (13, .astore 4, 2), (15, .iconst 1, 1), (16, .ireturn, 1), (17, .astore 4, 2), (19, .iconst 2, 1), (20, .ireturn, 1), (21, .iconst 0, 1), (22, .ireturn, 1)]
theorem tb_L_then_0_ok : dck cL_then tb_L_then_0 = true := by decide +kernel
def tb_L_sky_0 : Tb := [(0, .aload_n 3, 1), (1, .iconst 0, 1), (2, .aload_n 0, 1), (3, .iload_n 1, 1), (4, .iload_n 2, 1), (5, .invokevirtual 41, 3), (8, .i2l, 1), (9, .lastore, 1), (10, .goto 11, 3), (13, .astore 4, 2), (15, .iconst 1, 1), (16, .ireturn, 1), (17, .astore 4, 2), (19, .iconst 2, 1), (20, .ireturn, 1), (21, .iconst 0, 1), (22, .ireturn, 1)]
theorem tb_L_sky_0_ok : dck cL_sky tb_L_sky_0 = true := by decide +kernel
def tb_L_overdone_0 : Tb := [(0, .aload_n 2, 1), (1, .iconst 0, 1), (2, .aload_n 0, 1), (3, .iload_n 1, 1), (4, .invokevirtual 44, 3), (7, .i2l, 1), (8, .lastore, 1), (9, .goto 6, 3), (12, .astore_n 3, 1), (13, .iconst 1, 1), (14, .ireturn, 1), (15, .iconst 0, 1), (16, .ireturn, 1)]
theorem tb_L_overdone_0_ok : dck cL_overdone tb_L_overdone_0 = true := by decide +kernel
def tb_L_first_0 : Tb := [(0, .aload_n 2, 1), (1, .iconst 0, 1), (2, .aload_n 0, 1), (3, .iload_n 1, 1), (4, .invokevirtual 47, 3), (7, .i2l, 1), (8, .lastore, 1), (9, .goto 6, 3), (12, .astore_n 3, 1), (13, .iconst 1, 1), (14, .ireturn, 1), (15, .iconst 0, 1), (16, .ireturn, 1)]
theorem tb_L_first_0_ok : dck cL_first tb_L_first_0 = true := by decide +kernel
def tb_L_streak_0 : Tb := [(0, .aload_n 2, 1), (1, .iconst 0, 1), (2, .aload_n 0, 1), (3, .iload_n 1, 1), (4, .invokevirtual 50, 3), (7, .i2l, 1), (8, .lastore, 1), (9, .goto 6, 3), (12, .astore_n 3, 1), (13, .iconst 1, 1), (14, .ireturn, 1), (15, .iconst 0, 1), (16, .ireturn, 1)]
theorem tb_L_streak_0_ok : dck cL_streak tb_L_streak_0 = true := by decide +kernel
def tb_L_patch_0 : Tb := [(0, .aload_n 3, 1), (1, .iconst 0, 1), (2, .aload_n 0, 1), (3, .iload_n 1, 1), (4, .iload_n 2, 1), (5, .invokevirtual 53, 3), (8, .i2l, 1), (9, .lastore, 1), (10, .goto 11, 3), (13, .astore 4, 2), (15, .iconst 1, 1), (16, .ireturn, 1), (17, .astore 4, 2), (19, .iconst 2, 1), (20, .ireturn, 1), (21, .iconst 0, 1), (22, .ireturn, 1)]
theorem tb_L_patch_0_ok : dck cL_patch tb_L_patch_0 = true := by decide +kernel
def tb_L_patches_0 : Tb := [(0, .aload_n 2, 1), (1, .iconst 0, 1), (2, .aload_n 0, 1), (3, .iload_n 1, 1), (4, .invokevirtual 56, 3), (7, .i2l, 1), (8, .lastore, 1), (9, .goto 6, 3), (12, .astore_n 3, 1), (13, .iconst 1, 1), (14, .ireturn, 1), (15, .iconst 0, 1), (16, .ireturn, 1)]
theorem tb_L_patches_0_ok : dck cL_patches tb_L_patches_0 = true := by decide +kernel
def tb_L_way_0 : Tb := [(0, .aload_n 3, 1), (1, .iconst 0, 1), (2, .aload_n 0, 1), (3, .iload_n 1, 1), (4, .iload_n 2, 1), (5, .invokevirtual 59, 3), (8, .i2l, 1), (9, .lastore, 1), (10, .goto 7, 3), (13, .astore 4, 2), (15, .iconst 1, 1), (16, .ireturn, 1), (17, .iconst 0, 1), (18, .ireturn, 1)]
theorem tb_L_way_0_ok : dck cL_way tb_L_way_0 = true := by decide +kernel
def tb_L_toStand_0 : Tb := [(0, .aload_n 3, 1), (1, .iconst 0, 1), (2, .aload_n 0, 1), (3, .iload_n 1, 1), (4, .iload_n 2, 1), (5, .invokevirtual 62, 3), (8, .i2l, 1), (9, .lastore, 1), (10, .goto 7, 3), (13, .astore 4, 2), (15, .iconst 1, 1), (16, .ireturn, 1), (17, .iconst 0, 1), (18, .ireturn, 1)]
theorem tb_L_toStand_0_ok : dck cL_toStand tb_L_toStand_0 = true := by decide +kernel
def tb_L_toSwish_0 : Tb := [(0, .aload_n 3, 1), (1, .iconst 0, 1), (2, .aload_n 0, 1), (3, .iload_n 1, 1), (4, .iload_n 2, 1), (5, .invokevirtual 65, 3), (8, .i2l, 1), (9, .lastore, 1), (10, .goto 11, 3), (13, .astore 4, 2), (15, .iconst 1, 1), (16, .ireturn, 1), (17, .astore 4, 2), (19, .iconst 2, 1), (20, .ireturn, 1), (21, .iconst 0, 1), (22, .ireturn, 1)]
theorem tb_L_toSwish_0_ok : dck cL_toSwish tb_L_toSwish_0 = true := by decide +kernel
def tb_L_sent_0 : Tb := [(0, .aload_n 3, 1), (1, .iconst 0, 1), (2, .aload_n 0, 1), (3, .iload_n 1, 1), (4, .iload_n 2, 1), (5, .invokevirtual 68, 3), (8, .i2l, 1), (9, .lastore, 1), (10, .goto 11, 3), (13, .astore 4, 2), (15, .iconst 1, 1), (16, .ireturn, 1), (17, .astore 4, 2), (19, .iconst 2, 1), (20, .ireturn, 1), (21, .iconst 0, 1), (22, .ireturn, 1)]
theorem tb_L_sent_0_ok : dck cL_sent tb_L_sent_0 = true := by decide +kernel
def tb_L_band_0 : Tb := [(0, .aload_n 2, 1), (1, .iconst 0, 1), (2, .aload_n 0, 1), (3, .iload_n 1, 1), (4, .invokevirtual 71, 3), (7, .i2l, 1), (8, .lastore, 1), (9, .goto 6, 3), (12, .astore_n 3, 1), (13, .iconst 1, 1), (14, .ireturn, 1), (15, .iconst 0, 1), (16, .ireturn, 1)]
theorem tb_L_band_0_ok : dck cL_band tb_L_band_0 = true := by decide +kernel
def tb_L_steps_0 : Tb := [(0, .aload_n 3, 1), (1, .iconst 0, 1), (2, .aload_n 0, 1), (3, .iload_n 1, 1), (4, .iload_n 2, 1), (5, .invokevirtual 74, 3), (8, .i2l, 1), (9, .lastore, 1), (10, .goto 7, 3), (13, .astore 4, 2), (15, .iconst 1, 1), (16, .ireturn, 1), (17, .iconst 0, 1), (18, .ireturn, 1)]
theorem tb_L_steps_0_ok : dck cL_steps tb_L_steps_0 = true := by decide +kernel
def tb_L_nearest_0 : Tb := [(0, .aload_n 2, 1), (1, .iconst 0, 1), (2, .aload_n 0, 1), (3, .iload_n 1, 1), (4, .invokevirtual 77, 3), (7, .i2l, 1), (8, .lastore, 1), (9, .goto 6, 3), (12, .astore_n 3, 1), (13, .iconst 1, 1), (14, .ireturn, 1), (15, .iconst 0, 1), (16, .ireturn, 1)]
theorem tb_L_nearest_0_ok : dck cL_nearest tb_L_nearest_0 = true := by decide +kernel
def tb_L_missed_0 : Tb := [(0, .aload_n 2, 1), (1, .iconst 0, 1), (2, .aload_n 0, 1), (3, .iload_n 1, 1), (4, .invokevirtual 80, 3), (7, .i2l, 1), (8, .lastore, 1), (9, .goto 6, 3), (12, .astore_n 3, 1), (13, .iconst 1, 1), (14, .ireturn, 1), (15, .iconst 0, 1), (16, .ireturn, 1)]
theorem tb_L_missed_0_ok : dck cL_missed tb_L_missed_0 = true := by decide +kernel
def tb_L_see_0 : Tb := [(0, .aload 4, 2), (2, .iconst 0, 1), (3, .aload_n 0, 1), (4, .iload_n 1, 1), (5, .iload_n 2, 1), (6, .iload_n 3, 1), (7, .invokevirtual 83, 3), (10, .i2l, 1), (11, .lastore, 1), (12, .goto 7, 3), (15, .astore 5, 2), (17, .iconst 1, 1), (18, .ireturn, 1), (19, .iconst 0, 1), (20, .ireturn, 1)]
theorem tb_L_see_0_ok : dck cL_see tb_L_see_0 = true := by decide +kernel
def tb_L_skilled_0 : Tb := [(0, .aload_n 2, 1), (1, .iconst 0, 1), (2, .aload_n 0, 1), (3, .iload_n 1, 1), (4, .invokevirtual 87, 3), (7, .i2l, 1), (8, .lastore, 1), (9, .goto 6, 3), (12, .astore_n 3, 1), (13, .iconst 1, 1), (14, .ireturn, 1), (15, .iconst 0, 1), (16, .ireturn, 1)]
theorem tb_L_skilled_0_ok : dck cL_skilled tb_L_skilled_0 = true := by decide +kernel
def tb_L_look_0 : Tb := [(0, .aload_n 2, 1), (1, .iconst 0, 1), (2, .aload_n 0, 1), (3, .iload_n 1, 1), (4, .invokevirtual 90, 3), (7, .i2l, 1), (8, .lastore, 1), (9, .goto 6, 3), (12, .astore_n 3, 1), (13, .iconst 1, 1), (14, .ireturn, 1), (15, .iconst 0, 1), (16, .ireturn, 1)]
theorem tb_L_look_0_ok : dck cL_look tb_L_look_0 = true := by decide +kernel
def tb_L_game_0 : Tb := [(0, .aload 4, 2), (2, .iconst 0, 1), (3, .aload_n 0, 1), (4, .iload_n 1, 1), (5, .iload_n 2, 1), (6, .iload_n 3, 1), (7, .invokevirtual 93, 3), (10, .i2l, 1), (11, .lastore, 1), (12, .goto 11, 3), (15, .astore 5, 2), (17, .iconst 1, 1), (18, .ireturn, 1), (19, .astore 5, 2), (21, .iconst 2, 1), (22, .ireturn, 1), (23, .iconst 0, 1), (24, .ireturn, 1)]
theorem tb_L_game_0_ok : dck cL_game tb_L_game_0 = true := by decide +kernel
def tb_L_skies_0 : Tb := [(0, .aload 4, 2), (2, .iconst 0, 1), (3, .aload_n 0, 1), (4, .iload_n 1, 1), (5, .iload_n 2, 1), (6, .iload_n 3, 1), (7, .invokevirtual 96, 3), (10, .i2l, 1), (11, .lastore, 1), (12, .goto 11, 3), (15, .astore 5, 2), (17, .iconst 1, 1), (18, .ireturn, 1), (19, .astore 5, 2), (21, .iconst 2, 1), (22, .ireturn, 1), (23, .iconst 0, 1), (24, .ireturn, 1)]
theorem tb_L_skies_0_ok : dck cL_skies tb_L_skies_0 = true := by decide +kernel
end
section
/-! ===== my own judgement over the kit's: memory by positions ===== -/
abbrev Mem : Type := (Nat → Nat → Int32) × (Nat → Nat → Int64) × (Nat → Nat → Nat)
abbrev Lay : Type := (Nat → Nat × Nat) × (Nat → Nat → Nat) × Nat
def kd (y : Lay) (r : Nat) : Nat × Nat := if 1 ≤ r ∧ r ≤ y.2.2 then y.1 r else (9, 0)
def u2 {α : Type} (f : Nat → Nat → α) (p k : Nat) (v : α) : Nat → Nat → α := fun a b => if a = p ∧ b = k then v else f a b
def wI (M : Mem) (p k : Nat) (v : Int32) : Mem := (u2 M.1 p k v, M.2)
def wL (M : Mem) (p k : Nat) (v : Int64) : Mem := (M.1, u2 M.2.1 p k v, M.2.2)
def wR (M : Mem) (p k : Nat) (v : Nat) : Mem := (M.1, M.2.1, u2 M.2.2 p k v)
def cpI (M : Mem) (a b sp dp n : Nat) : Mem := (fun q => if q = b then va_cpy (M.1 a) (M.1 b) sp dp n else M.1 q, M.2)
-- functional combinators
def gd {β : Type} (P : Prop) [Decidable P] (k : Option β) : Option β := if P then k else none
def gK {β : Type} (y : Lay) (r : Nat) (c : Nat × Nat) (k : Option β) : Option β := if kd y r = c then k else none
def gA {β : Type} (y : Lay) (r t : Nat) (i : Int32) (k : Option β) : Option β := if (kd y r).1 = t ∧ ¬ (i < 0 ∨ (kd y r).2 ≤ i.toNatClampNeg) then k else none
def gT {β : Type} (y : Lay) (r t : Nat) (k : Option β) : Option β := if (kd y r).1 = t then k else none
def gN {β : Type} (r : Nat) (k : Option β) : Option β := if r = 0 then none else k
def br {β : Type} (P : Prop) [Decidable P] (a b : Option β) : Option β := if P then a else b
def lt {α : Type} {β : Type} (e : α) (k : α → Option β) : Option β := k e
def jn {κ : Type} {β : Type} (K : κ) (b : κ → Option β) : Option β := b K
def fixN {κ : Type} (bot : κ) (F : κ → κ) : Nat → κ
  | 0 => bot
  | n + 1 => F (fixN bot F n)
def c0 {β : Type} (x : Option (Int32 × Mem)) (k : Int32 → Mem → Option β) : Option β := match x with
  | some (r, M) => k r M
  | none => none
def c1 {α : Type} (x : Option (Nat × Int32 × Mem)) (k : Int32 → Mem → Option (Nat × Int32 × Mem)) (_ : α) : Option (Nat × Int32 × Mem) := match x with
  | some (0, r, M) => k r M
  | some (e + 1, r, M) => some (e + 1, r, M)
  | none => none
def ci {β : Type} (x : Option (Lay × Mem)) (k : Lay → Mem → Option β) : Option β := match x with
  | some (y, M) => k y M
  | none => none
theorem gd_e {β : Type} {P : Prop} [Decidable P] {k : Option β} {o : β} (h : gd P k = some o) : P ∧ k = some o := by
  unfold gd at h; split at h
  · exact ⟨by assumption, h⟩
  · cases h
theorem gK_e {β : Type} {y : Lay} {r : Nat} {c : Nat × Nat} {k : Option β} {o : β} (h : gK y r c k = some o) : kd y r = c ∧ k = some o := by
  unfold gK at h; split at h
  · exact ⟨by assumption, h⟩
  · cases h
theorem gA_e {β : Type} {y : Lay} {r t : Nat} {i : Int32} {k : Option β} {o : β} (h : gA y r t i k = some o) : ((kd y r).1 = t ∧ ¬ (i < 0 ∨ (kd y r).2 ≤ i.toNatClampNeg)) ∧ k = some o := by
  unfold gA at h; split at h
  · exact ⟨by assumption, h⟩
  · cases h
theorem gT_e {β : Type} {y : Lay} {r t : Nat} {k : Option β} {o : β} (h : gT y r t k = some o) : (kd y r).1 = t ∧ k = some o := by
  unfold gT at h; split at h
  · exact ⟨by assumption, h⟩
  · cases h
theorem gN_e {β : Type} {r : Nat} {k : Option β} {o : β} (h : gN r k = some o) : ¬ r = 0 ∧ k = some o := by
  unfold gN at h; split at h
  · cases h
  · exact ⟨by assumption, h⟩
theorem br_e {β : Type} {P : Prop} [Decidable P] {a b : Option β} {o : β} (h : br P a b = some o) : (P → a = some o) ∧ (¬ P → b = some o) := by
  unfold br at h; split at h
  · exact ⟨fun _ => h, fun n => absurd (by assumption) n⟩
  · exact ⟨fun n => absurd n (by assumption), fun _ => h⟩
theorem lt_e {α β : Type} {e v : α} {k : α → Option β} {o : β} (ev : v = e) (h : lt e k = some o) : k v = some o := by subst ev; exact h
theorem jn_e {κ β : Type} {K : κ} {b : κ → Option β} {o : β} (h : jn K b = some o) : ∃ j : κ, j = K ∧ b j = some o := ⟨K, rfl, h⟩
theorem c0_e {β : Type} {x : Option (Int32 × Mem)} {k : Int32 → Mem → Option β} {o : β} (h : c0 x k = some o) : ∃ r M, x = some (r, M) ∧ k r M = some o := by
  unfold c0 at h; split at h
  · exact ⟨_, _, rfl, h⟩
  · cases h
theorem ci_e {β : Type} {x : Option (Lay × Mem)} {k : Lay → Mem → Option β} {o : β} (h : ci x k = some o) : ∃ y M, x = some (y, M) ∧ k y M = some o := by
  unfold ci at h; split at h
  · exact ⟨_, _, rfl, h⟩
  · cases h
theorem c1_e {α : Type} {x : Option (Nat × Int32 × Mem)} {k : Int32 → Mem → Option (Nat × Int32 × Mem)} {u : α} {o : Nat × Int32 × Mem} (h : c1 x k u = some o) : (∃ r M, x = some (0, r, M) ∧ k r M = some o) ∨ (x = some o ∧ o.1 ≠ 0) := by
  unfold c1 at h; split at h
  · exact Or.inl ⟨_, _, rfl, h⟩
  · cases h; exact Or.inr ⟨rfl, Nat.succ_ne_zero _⟩
  · cases h
-- the world of a memory
abbrev GX : Type := State × va_G × (Nat → ClassId) × (Nat → Nat) × Nat × Nat × (Nat → Int32)
def bs (g : GX) : Nat := g.1.heap.size
def ad (g : GX) (p : Nat) : Nat := if p < 1000 then bs g + (p - 1) else if p = 1999 then g.2.2.2.2.1 else g.2.2.2.1 (p - 1000)
def va (g : GX) : Value → Value
  | .ref p => .ref (ad g p)
  | v => v
def rfv (r : Nat) : Value := if r = 0 then .null else .ref r
def ado (g : GX) (r : Nat) : Option Nat := if r = 0 then none else some (ad g r)
def ftag (ci k : Nat) : Nat := (FTT.getD ci []).getD k 0
def nfl (ci : Nat) : Nat := (FTT.getD ci []).length
def slot (g : GX) (y : Lay) (M : Mem) (p ci k : Nat) : Value := if ftag ci k = 0 then .int (M.1 p k) else if ftag ci k = 1 then va g (rfv (y.2.1 p k)) else va g (rfv (M.2.2 p k))
def entK (g : GX) (y : Lay) (M : Mem) (p : Nat) (c : Nat × Nat) : va_E :=
  if c.1 = 0 then .inr (c.2, (List.range (nfl c.2)).map (slot g y M p c.2))
  else if c.1 = 1 then .inl (g.2.2.1 0, c.2, .inl (M.1 p))
  else if c.1 = 2 then .inl (g.2.2.1 1, c.2, .inl (M.1 p))
  else if c.1 = 3 then .inl (g.2.2.1 2, c.2, .inr (.inl (M.2.1 p)))
  else .inl (g.2.2.1 3, c.2, .inr (.inr (.inr (.inr (fun j => ado g (y.2.1 p j))))))
def wld (g : GX) (y : Lay) (M : Mem) : va_W := (List.range y.2.2).map (fun i => (bs g + i, entK g y M (i + 1) (y.1 (i + 1))))
def tysG (g : GX) : List (ClassId × FieldType) := [(g.2.2.1 0, .int), (g.2.2.1 1, .byte), (g.2.2.1 2, .long), (g.2.2.1 3, .object "java/lang/String")]
def RelH (g : GX) (y : Lay) (M : Mem) (H : Heap) : Prop := va_P g.2.1 vwCl (wld g y M) H ∧ y.2.2 < 1000
def Ag (g : GX) : Nat → Prop := fun q => bs g ≤ q
theorem wld_get {g : GX} {y : Lay} {M : Mem} {r : Nat} {c : Nat × Nat} (h : kd y r = c) (hc : c.1 ≠ 9) (hn : y.2.2 < 1000) : (wld g y M)[r - 1]? = some (ad g r, entK g y M r c) := by
  unfold kd at h
  split at h
  · rename_i hr
    obtain ⟨h1, h2⟩ := hr
    have e : r - 1 + 1 = r := by omega
    unfold wld ad
    rw [List.getElem?_map, List.getElem?_range (by omega), if_pos (by omega)]
    simp only [Option.map_some, e, h]
  · exact absurd (by rw [← h]) hc
theorem wld_D {g : GX} {y : Lay} {M : Mem} : va_D (Ag g) (wld g y M) := by
  have key : ∀ (k : Nat) (q : Nat × va_E), (wld g y M)[k]? = some q → q.1 = bs g + k := by
    intro k q h
    unfold wld at h
    rw [List.getElem?_map] at h
    cases hk : (List.range y.2.2)[k]? with
    | none => rw [hk] at h; cases h
    | some i =>
      rw [hk] at h
      cases h
      have := List.getElem?_eq_some_iff.mp hk
      obtain ⟨h1, h2⟩ := this
      simp at h2
      show bs g + i = bs g + k
      omega
  refine ⟨fun i j p q h1 h2 e => ?_, fun k q h => ?_⟩
  · rw [key i p h1, key j q h2] at e; omega
  · rw [key k q h]; show bs g ≤ bs g + k; omega
theorem wld_len {g : GX} {y : Lay} {M : Mem} : (wld g y M).length = y.2.2 := by simp [wld]
/-- a change of one cell -/
theorem wld_set {g : GX} {y : Lay} {M M' : Mem} {r : Nat} {c : Nat × Nat} {e' : va_E} (h : kd y r = c) (hc : c.1 ≠ 9) (hn : y.2.2 < 1000) (he : entK g y M' r c = e') (ho : ∀ p, p ≠ r → ∀ c', entK g y M' p c' = entK g y M p c') : (wld g y M).set (r - 1) (ad g r, e') = wld g y M' := by
  have hr : 1 ≤ r ∧ r ≤ y.2.2 ∧ y.1 r = c := by
    unfold kd at h
    split at h
    · rename_i hr; exact ⟨hr.1, hr.2, h⟩
    · exact absurd (by rw [← h]) hc
  obtain ⟨h1, h2, h3⟩ := hr
  apply List.ext_getElem?
  intro k
  rw [List.getElem?_set]
  by_cases hk : r - 1 = k
  · subst hk
    rw [if_pos rfl, if_pos (by rw [wld_len]; omega), wld_get (M := M') h hc hn, he]
  · rw [if_neg hk]
    unfold wld
    rw [List.getElem?_map, List.getElem?_map]
    cases hx : (List.range y.2.2)[k]? with
    | none => rfl
    | some i =>
      have hi : i = k := by
        obtain ⟨h1, h2⟩ := List.getElem?_eq_some_iff.mp hx
        simp at h2; omega
      simp only [Option.map_some]
      rw [ho (i + 1) (by omega)]
-- locals
def lvl (g : GX) : Nat → List (Option Value) → List (Nat × Value)
  | _, [] => []
  | k, none :: r => lvl g (k + 1) r
  | k, some v :: r => (k, va g v) :: lvl g (k + 1) r
theorem mem_lvl {g : GX} {q : Nat × Value} : ∀ {L : List (Option Value)} {b : Nat}, q ∈ lvl g b L ↔ ∃ j v, q = (b + j, va g v) ∧ L[j]? = some (some v) := by
  intro L
  induction L with
  | nil => intro b; simp [lvl]
  | cons a L ih =>
    intro b
    cases a with
    | none =>
      simp only [lvl]
      rw [ih]
      constructor
      · rintro ⟨j, v, h1, h2⟩
        exact ⟨j + 1, v, by rw [h1]; congr 1; omega, by simpa using h2⟩
      · rintro ⟨j, v, h1, h2⟩
        cases j with
        | zero => simp at h2
        | succ j => exact ⟨j, v, by rw [h1]; congr 1; omega, by simpa using h2⟩
    | some w =>
      simp only [lvl, List.mem_cons]
      rw [ih]
      constructor
      · rintro (h | ⟨j, v, h1, h2⟩)
        · exact ⟨0, w, by rw [h]; rfl, by simp⟩
        · exact ⟨j + 1, v, by rw [h1]; congr 1; omega, by simpa using h2⟩
      · rintro ⟨j, v, h1, h2⟩
        cases j with
        | zero => left; simp at h2; rw [h1, h2]; rfl
        | succ j => right; exact ⟨j, v, by rw [h1]; congr 1; omega, by simpa using h2⟩
def LV (g : GX) (nL : Nat) (ls : Array Slot) (L : List (Option Value)) : Prop := lv_has ls nL (lvl g 0 L) ∧ L.length = nL
theorem LV.get {g : GX} {nL : Nat} {ls : Array Slot} {L : List (Option Value)} (h : LV g nL ls L) {i : Nat} {v : Value} (hi : L[i]? = some (some v)) : ls[i]? = some (.val (va g v)) := by
  have := h.1.2.2 (i, va g v) (mem_lvl.mpr ⟨i, v, by simp, hi⟩)
  exact this
/-- no long stands just ahead of place i -/
def nlo (L : List (Option Value)) (i : Nat) : Bool := match i with
  | 0 => true
  | j + 1 => match L[j]? with
    | some (some (.long _)) => false
    | some (some (.double _)) => false
    | _ => true
theorem va_cat {g : GX} (v : Value) : (va g v).category = v.category := by cases v <;> rfl
theorem LV.set {g : GX} {nL : Nat} {ls ls' : Array Slot} {L : List (Option Value)} {i : Nat} {v : Value} (h : LV g nL ls L) (hn : nlo L i = true) (h' : lv_has ls' nL ((i, va g v) :: (lvl g 0 L).filter (fun q => !(q.1 == i) && !(q.1 + 1 == i && q.2.category == 2)))) : LV g nL ls' (L.set i (some v)) := by
  refine ⟨⟨h'.1, h'.2.1, fun q hq => ?_⟩, by rw [List.length_set]; exact h.2⟩
  apply h'.2.2
  obtain ⟨j, w, e1, e2⟩ := mem_lvl.mp hq
  rw [List.getElem?_set] at e2
  by_cases hj : i = j
  · subst hj
    rw [if_pos rfl] at e2
    split at e2
    · cases e2; rw [e1]; simp
    · cases e2
  · rw [if_neg hj] at e2
    refine List.mem_cons_of_mem _ (List.mem_filter.mpr ⟨mem_lvl.mpr ⟨j, w, e1, e2⟩, ?_⟩)
    rw [e1]
    simp only [Nat.zero_add, va_cat]
    have hne : (j == i) = false := by simpa using (fun e => hj e.symm)
    rw [hne]
    cases hb : (j + 1 == i && w.category == 2) with
    | false => rfl
    | true =>
      simp only [Bool.and_eq_true, beq_iff_eq] at hb
      obtain ⟨hb1, hb2⟩ := hb
      subst hb1
      unfold nlo at hn
      simp only [e2] at hn
      cases w <;> simp [Value.category] at hb2 hn
theorem LV.set2 {g : GX} {nL : Nat} {ls ls' : Array Slot} {L : List (Option Value)} {i : Nat} {v : Value} (h : LV g nL ls L) (hn : nlo L i = true) (h' : lv_has ls' nL ((i, va g v) :: (lvl g 0 L).filter (fun q => !(q.1 == i) && (!(q.1 == i + 1) && !(q.1 + 1 == i && q.2.category == 2))))) : LV g nL ls' ((L.set (i + 1) none).set i (some v)) := by
  refine ⟨⟨h'.1, h'.2.1, fun q hq => ?_⟩, by rw [List.length_set, List.length_set]; exact h.2⟩
  apply h'.2.2
  obtain ⟨j, w, e1, e2⟩ := mem_lvl.mp hq
  rw [List.getElem?_set, List.getElem?_set] at e2
  by_cases hj : i = j
  · subst hj
    rw [if_pos rfl] at e2
    split at e2
    · cases e2; rw [e1]; simp
    · cases e2
  · rw [if_neg hj] at e2
    by_cases hj2 : i + 1 = j
    · rw [if_pos hj2] at e2
      split at e2 <;> cases e2
    · rw [if_neg hj2] at e2
      refine List.mem_cons_of_mem _ (List.mem_filter.mpr ⟨mem_lvl.mpr ⟨j, w, e1, e2⟩, ?_⟩)
      rw [e1]
      simp only [Nat.zero_add, va_cat]
      have hne : (j == i) = false := by simpa using (fun e => hj e.symm)
      have hne2 : (j == i + 1) = false := by simpa using (fun e => hj2 e.symm)
      rw [hne, hne2]
      cases hb : (j + 1 == i && w.category == 2) with
      | false => rfl
      | true =>
        simp only [Bool.and_eq_true, beq_iff_eq] at hb
        obtain ⟨hb1, hb2⟩ := hb
        subst hb1
        unfold nlo at hn
        simp only [e2] at hn
        cases w <;> simp [Value.category] at hb2 hn
/-- fewer known locals -/
def lle : List (Option Value) → List (Option Value) → Prop
  | [], [] => True
  | none :: a, _ :: b => lle a b
  | some v :: a, some w :: b => v = w ∧ lle a b
  | _, _ => False
theorem lle_get : ∀ {A B : List (Option Value)}, lle A B → A.length = B.length ∧ ∀ (j : Nat) (v : Value), A[j]? = some (some v) → B[j]? = some (some v) := by
  intro A
  induction A with
  | nil => intro B h; cases B with
    | nil => exact ⟨rfl, fun j v h => h⟩
    | cons b B => exact h.elim
  | cons a A ih => intro B h; cases B with
    | nil => cases a <;> exact h.elim
    | cons b B =>
      cases a with
      | none =>
        have h' : lle A B := h
        obtain ⟨h1, h2⟩ := ih h'
        refine ⟨by simp [h1], fun j v hj => ?_⟩
        cases j with
        | zero => simp at hj
        | succ j => simpa using h2 j v (by simpa using hj)
      | some v0 =>
        cases b with
        | none => exact h.elim
        | some w0 =>
          have h' : v0 = w0 ∧ lle A B := h
          obtain ⟨h1, h2⟩ := ih h'.2
          refine ⟨by simp [h1], fun j v hj => ?_⟩
          cases j with
          | zero => rw [← h'.1]; exact hj
          | succ j => simpa using h2 j v (by simpa using hj)
theorem LV.less {g : GX} {nL : Nat} {ls : Array Slot} {A B : List (Option Value)} (h : LV g nL ls B) (hl : lle A B) : LV g nL ls A := by
  obtain ⟨h1, h2⟩ := lle_get hl
  refine ⟨⟨h.1.1, h.1.2.1, fun q hq => ?_⟩, h1.trans h.2⟩
  obtain ⟨j, w, e1, e2⟩ := mem_lvl.mp hq
  exact h.1.2.2 q (mem_lvl.mpr ⟨j, w, e1, h2 j w e2⟩)
end
section
abbrev KX : Type := Program × Launch × Env × Room × State × MethodId × Array Value × List Frame × Method × Code
def RLE (R : Room) (d mc ms : Nat) : Prop := d + 10 ≤ R.frames ∧ 100 * d + 300 ≤ R.locals ∧ R.cells = mc ∧ R.slots = ms
def rmD (d mc ms : Nat) : Room := { frames := d + 10, cells := mc, slots := ms, locals := 100 * d + 300 }
def SF (g : GX) : Prop := (∀ k : Nat, k < nStr → va_O "java/lang/String" (g.2.2.2.1 k) (Ag g) g.1 g.1.heap ∧ va_OF "java/lang/String" "coder" "B" (.int 0) (g.2.2.2.1 k) (Ag g) g.1 g.1.heap ∧ va_OF "java/lang/String" "value" "[B" (.ref (g.2.2.2.1 (1000 + k))) (g.2.2.2.1 k) (Ag g) g.1 g.1.heap ∧ va_T .byte (g.2.2.2.1 (1000 + k)) (strB k).length (fun j => .int ((strB k).getD j 0)) (Ag g) g.1 g.1.heap ∧ vk_R (strOwn k) (strIdx k) (strTx k) (g.2.2.2.1 k) g.1) ∧ va_Z "java/lang/String" "COMPACT_STRINGS" "Z" (.int 1) (Ag g) g.1 g.1.heap ∧ (va_Z "jdk/internal/util/Preconditions" "SIOOBE_FORMATTER" "Ljava/util/function/BiFunction;" .null (Ag g) g.1 g.1.heap ∨ va_Z "jdk/internal/util/Preconditions" "SIOOBE_FORMATTER" "Ljava/util/function/BiFunction;" (.ref (g.2.2.2.1 998)) (Ag g) g.1 g.1.heap)
def TF (g : GX) : Prop := vx_Zq Bundle.tN "UNASSIGNED_STACK" Bundle.steD (Ag g) g.1 g.1.heap ∧ vx_Zq Bundle.tN "SUPPRESSED_SENTINEL" Bundle.listD (Ag g) g.1 g.1.heap
def XF (g : GX) : Prop := va_X g.2.2.2.2.1 g.2.2.2.2.2.1 g.2.2.2.2.2.2 g.1 g.1.heap ∧ g.2.2.2.2.1 < bs g ∧ va_Nc "java/lang/IllegalArgumentException" "java/util/NoSuchElementException" g.1
/-- what stands at the law's start -/
def GF (g : GX) (l : Launch) : Prop := (∀ w ∈ lw_tbl, w.before #[Value.ref g.2.2.2.2.1] g.1 = true) ∧ va_K g.2.1 vwCl (tysG g) g.1 ∧ l.flags = flags0 ∧ SF g ∧ TF g ∧ XF g
/-- where a method stands -/
def CX (g : GX) (x : KX) (own : String) (cc : ByteArray) (nL d mc ms : Nat) : Prop :=
  x.1.tables.exec = Jvm.exec ∧ x.2.2.2.2.2.2.2.2.2.code = cc ∧ x.2.2.2.2.2.2.2.2.2.maxLocals = nL ∧ x.2.2.2.2.1.vm.findClass own = some x.2.2.2.2.2.1.cls ∧ x.2.2.2.2.2.2.2.2.1.locks = false ∧ RLE x.2.2.2.1 d mc ms ∧ GF g x.2.1 ∧ g.1.WarmedH x.2.2.2.2.1.vm ∧ bs g ≤ x.2.2.2.2.1.heap.size ∧ (∀ q, q < bs g → x.2.2.2.2.1.heap[q]? = g.1.heap[q]?)
abbrev WX (x : KX) (H : Heap) (locs : List Loc) (kc ks : Nat) (Q : State → Prop) (f : JFrame) : Prop := W x.1 x.2.1 x.2.2.1 x.2.2.2.1 x.2.2.2.2.1 x.2.2.2.2.2.1 x.2.2.2.2.2.2.1 x.2.2.2.2.2.2.2.1 x.2.2.2.2.2.2.2.2.1 x.2.2.2.2.2.2.2.2.2 H locs kc ks Q f
def GG (g : GX) (x : KX) (nL : Nat) (Q : State → Prop) (kc ks : Nat) (y : Lay) (M : Mem) (pc : Nat) (L : List (Option Value)) (S : List Value) : Prop :=
  ∀ (H : Heap) (locs : List Loc) (ls : Array Slot), RelH g y M H → va_S (Ag g) x.2.2.2.2.1.heap H locs → LV g nL ls L → WX x H locs kc ks Q (F0 x.2.2.2.2.2.1 pc ls (S.map (va g)))
theorem CX.word {g : GX} {x : KX} {own : String} {cc : ByteArray} {nL d mc ms : Nat} (C : CX g x own cc nL d mc ms) {w : Cond} (hw : w ∈ lw_tbl) (hg : goodWord w = true) : w.before x.2.2.2.2.2.2.1 x.2.2.2.2.1 = true :=
  word_at C.2.2.2.2.2.2.2.1 (good_of_word hg) (C.2.2.2.2.2.2.1.1 w hw)
theorem CX.K {g : GX} {x : KX} {own : String} {cc : ByteArray} {nL d mc ms : Nat} (C : CX g x own cc nL d mc ms) : va_K g.2.1 vwCl (tysG g) x.2.2.2.2.1 :=
  va_K.moved (C.2.2.2.2.2.2.2.1).alike C.2.2.2.2.2.2.1.2.1
section GR
variable {g : GX} {x : KX} {own : String} {cc : ByteArray} {nL d mc ms : Nat} {Q : State → Prop} {kc ks : Nat} {y : Lay} {M : Mem} {pc i : Nat} {L : List (Option Value)} {S : List Value} {tb : Tb}
/-- fewer locals -/
theorem g_less {L' : List (Option Value)} (hl : lle L' L) (k : GG g x nL Q kc ks y M pc L' S) : GG g x nL Q kc ks y M pc L S := fun H locs ls h1 h2 h4 => k H locs ls h1 h2 (h4.less hl)
theorem g_topi {e : Int32} (k : ∀ v : Int32, v = e → GG g x nL Q kc ks y M pc L (.int v :: S)) : GG g x nL Q kc ks y M pc L (.int e :: S) := k e rfl
theorem g_topl {e : Int64} (k : ∀ v : Int64, v = e → GG g x nL Q kc ks y M pc L (.long v :: S)) : GG g x nL Q kc ks y M pc L (.long e :: S) := k e rfl
theorem g_mem {e : Mem} (k : ∀ v : Mem, v = e → GG g x nL Q kc ks y v pc L S) : GG g x nL Q kc ks y e pc L S := k e rfl

theorem g_iconst (C : CX g x own cc nL d mc ms) (T : dck cc tb = true) {n : Int} (hi : tb[i]? = some (pc, .iconst n, 1))  (k : GG g x nL Q kc ks y M (pc + 1) L (.int (Int32.ofInt n) :: S)) : GG g x nL Q kc ks y M pc L (S) :=
  fun H locs ls h1 h2 h4 => lv_iconst C.1 C.2.1 (dcg T hi) rfl (k H locs ls h1 h2 h4)
theorem g_bipush (C : CX g x own cc nL d mc ms) (T : dck cc tb = true) {n : Int} (hi : tb[i]? = some (pc, .bipush n, 2))  (k : GG g x nL Q kc ks y M (pc + 2) L (.int ((Int8.ofInt n).toInt32) :: S)) : GG g x nL Q kc ks y M pc L (S) :=
  fun H locs ls h1 h2 h4 => lv_bipush C.1 C.2.1 (dcg T hi) rfl (k H locs ls h1 h2 h4)
theorem g_sipush (C : CX g x own cc nL d mc ms) (T : dck cc tb = true) {n : Int} (hi : tb[i]? = some (pc, .sipush n, 3))  (k : GG g x nL Q kc ks y M (pc + 3) L (.int ((Int16.ofInt n).toInt32) :: S)) : GG g x nL Q kc ks y M pc L (S) :=
  fun H locs ls h1 h2 h4 => lv_sipush C.1 C.2.1 (dcg T hi) rfl (k H locs ls h1 h2 h4)
theorem g_iconstv (C : CX g x own cc nL d mc ms) (T : dck cc tb = true) {n : Int} (v : Int32) (hi : tb[i]? = some (pc, .iconst n, 1)) (hv : Int32.ofInt n = v) (k : GG g x nL Q kc ks y M (pc + 1) L (.int v :: S)) : GG g x nL Q kc ks y M pc L S :=
  fun H locs ls h1 h2 h4 => lv_iconst C.1 C.2.1 (dcg T hi) hv (k H locs ls h1 h2 h4)
theorem g_bipushv (C : CX g x own cc nL d mc ms) (T : dck cc tb = true) {n : Int} (v : Int32) (hi : tb[i]? = some (pc, .bipush n, 2)) (hv : (Int8.ofInt n).toInt32 = v) (k : GG g x nL Q kc ks y M (pc + 2) L (.int v :: S)) : GG g x nL Q kc ks y M pc L S :=
  fun H locs ls h1 h2 h4 => lv_bipush C.1 C.2.1 (dcg T hi) hv (k H locs ls h1 h2 h4)
theorem g_sipushv (C : CX g x own cc nL d mc ms) (T : dck cc tb = true) {n : Int} (v : Int32) (hi : tb[i]? = some (pc, .sipush n, 3)) (hv : (Int16.ofInt n).toInt32 = v) (k : GG g x nL Q kc ks y M (pc + 3) L (.int v :: S)) : GG g x nL Q kc ks y M pc L S :=
  fun H locs ls h1 h2 h4 => lv_sipush C.1 C.2.1 (dcg T hi) hv (k H locs ls h1 h2 h4)
theorem g_lconst (C : CX g x own cc nL d mc ms) (T : dck cc tb = true) {n : Fin 2} (v : Int64) (hi : tb[i]? = some (pc, .lconst n, 1)) (hv : Int64.ofNat (n : Nat) = v) (k : GG g x nL Q kc ks y M (pc + 1) L (.long v :: S)) : GG g x nL Q kc ks y M pc L S :=
  fun H locs ls h1 h2 h4 => lv_lconst C.1 C.2.1 (dcg T hi) hv (k H locs ls h1 h2 h4)
theorem g_iadd (C : CX g x own cc nL d mc ms) (T : dck cc tb = true) {a b : Int32} (hi : tb[i]? = some (pc, .iadd, 1))  (k : GG g x nL Q kc ks y M (pc + 1) L (.int (a + b) :: S)) : GG g x nL Q kc ks y M pc L (.int b :: .int a :: S) :=
  fun H locs ls h1 h2 h4 => lv_iadd C.1 C.2.1 (dcg T hi)  (k H locs ls h1 h2 h4)
theorem g_isub (C : CX g x own cc nL d mc ms) (T : dck cc tb = true) {a b : Int32} (hi : tb[i]? = some (pc, .isub, 1))  (k : GG g x nL Q kc ks y M (pc + 1) L (.int (a - b) :: S)) : GG g x nL Q kc ks y M pc L (.int b :: .int a :: S) :=
  fun H locs ls h1 h2 h4 => lv_isub C.1 C.2.1 (dcg T hi)  (k H locs ls h1 h2 h4)
theorem g_imul (C : CX g x own cc nL d mc ms) (T : dck cc tb = true) {a b : Int32} (hi : tb[i]? = some (pc, .imul, 1))  (k : GG g x nL Q kc ks y M (pc + 1) L (.int (a * b) :: S)) : GG g x nL Q kc ks y M pc L (.int b :: .int a :: S) :=
  fun H locs ls h1 h2 h4 => lv_imul C.1 C.2.1 (dcg T hi)  (k H locs ls h1 h2 h4)
theorem g_iand (C : CX g x own cc nL d mc ms) (T : dck cc tb = true) {a b : Int32} (hi : tb[i]? = some (pc, .iand, 1))  (k : GG g x nL Q kc ks y M (pc + 1) L (.int (a &&& b) :: S)) : GG g x nL Q kc ks y M pc L (.int b :: .int a :: S) :=
  fun H locs ls h1 h2 h4 => lv_iand C.1 C.2.1 (dcg T hi)  (k H locs ls h1 h2 h4)
theorem g_ior (C : CX g x own cc nL d mc ms) (T : dck cc tb = true) {a b : Int32} (hi : tb[i]? = some (pc, .ior, 1))  (k : GG g x nL Q kc ks y M (pc + 1) L (.int (a ||| b) :: S)) : GG g x nL Q kc ks y M pc L (.int b :: .int a :: S) :=
  fun H locs ls h1 h2 h4 => lv_ior C.1 C.2.1 (dcg T hi)  (k H locs ls h1 h2 h4)
theorem g_ixor (C : CX g x own cc nL d mc ms) (T : dck cc tb = true) {a b : Int32} (hi : tb[i]? = some (pc, .ixor, 1))  (k : GG g x nL Q kc ks y M (pc + 1) L (.int (a ^^^ b) :: S)) : GG g x nL Q kc ks y M pc L (.int b :: .int a :: S) :=
  fun H locs ls h1 h2 h4 => lv_ixor C.1 C.2.1 (dcg T hi)  (k H locs ls h1 h2 h4)
theorem g_ishl (C : CX g x own cc nL d mc ms) (T : dck cc tb = true) {a b : Int32} (hi : tb[i]? = some (pc, .ishl, 1))  (k : GG g x nL Q kc ks y M (pc + 1) L (.int (a <<< (b &&& 31)) :: S)) : GG g x nL Q kc ks y M pc L (.int b :: .int a :: S) :=
  fun H locs ls h1 h2 h4 => lv_ishl C.1 C.2.1 (dcg T hi)  (k H locs ls h1 h2 h4)
theorem g_ishr (C : CX g x own cc nL d mc ms) (T : dck cc tb = true) {a b : Int32} (hi : tb[i]? = some (pc, .ishr, 1))  (k : GG g x nL Q kc ks y M (pc + 1) L (.int (a >>> (b &&& 31)) :: S)) : GG g x nL Q kc ks y M pc L (.int b :: .int a :: S) :=
  fun H locs ls h1 h2 h4 => lv_ishr C.1 C.2.1 (dcg T hi)  (k H locs ls h1 h2 h4)
theorem g_iushr (C : CX g x own cc nL d mc ms) (T : dck cc tb = true) {a b : Int32} (hi : tb[i]? = some (pc, .iushr, 1))  (k : GG g x nL Q kc ks y M (pc + 1) L (.int ((a.toUInt32 >>> (b.toUInt32 &&& Int32.toUInt32 31)).toInt32) :: S)) : GG g x nL Q kc ks y M pc L (.int b :: .int a :: S) :=
  fun H locs ls h1 h2 h4 => lv_iushr C.1 C.2.1 (dcg T hi) rfl (k H locs ls h1 h2 h4)
theorem g_idiv (C : CX g x own cc nL d mc ms) (T : dck cc tb = true) {a b : Int32} (hi : tb[i]? = some (pc, .idiv, 1)) (hb : ¬ b = 0) (k : GG g x nL Q kc ks y M (pc + 1) L (.int (a / b) :: S)) : GG g x nL Q kc ks y M pc L (.int b :: .int a :: S) :=
  fun H locs ls h1 h2 h4 => lv_idiv C.1 C.2.1 (dcg T hi) hb (k H locs ls h1 h2 h4)
theorem g_irem (C : CX g x own cc nL d mc ms) (T : dck cc tb = true) {a b : Int32} (hi : tb[i]? = some (pc, .irem, 1)) (hb : ¬ b = 0) (k : GG g x nL Q kc ks y M (pc + 1) L (.int (a - a / b * b) :: S)) : GG g x nL Q kc ks y M pc L (.int b :: .int a :: S) :=
  fun H locs ls h1 h2 h4 => lv_irem C.1 C.2.1 (dcg T hi) hb (k H locs ls h1 h2 h4)
theorem g_ladd (C : CX g x own cc nL d mc ms) (T : dck cc tb = true) {a b : Int64} (hi : tb[i]? = some (pc, .ladd, 1))  (k : GG g x nL Q kc ks y M (pc + 1) L (.long (a + b) :: S)) : GG g x nL Q kc ks y M pc L (.long b :: .long a :: S) :=
  fun H locs ls h1 h2 h4 => lv_ladd C.1 C.2.1 (dcg T hi)  (k H locs ls h1 h2 h4)
theorem g_lsub (C : CX g x own cc nL d mc ms) (T : dck cc tb = true) {a b : Int64} (hi : tb[i]? = some (pc, .lsub, 1))  (k : GG g x nL Q kc ks y M (pc + 1) L (.long (a - b) :: S)) : GG g x nL Q kc ks y M pc L (.long b :: .long a :: S) :=
  fun H locs ls h1 h2 h4 => lv_lsub C.1 C.2.1 (dcg T hi)  (k H locs ls h1 h2 h4)
theorem g_lor (C : CX g x own cc nL d mc ms) (T : dck cc tb = true) {a b : Int64} (hi : tb[i]? = some (pc, .lor, 1))  (k : GG g x nL Q kc ks y M (pc + 1) L (.long (a ||| b) :: S)) : GG g x nL Q kc ks y M pc L (.long b :: .long a :: S) :=
  fun H locs ls h1 h2 h4 => lv_lor C.1 C.2.1 (dcg T hi)  (k H locs ls h1 h2 h4)
theorem g_land (C : CX g x own cc nL d mc ms) (T : dck cc tb = true) {a b : Int64} (hi : tb[i]? = some (pc, .land, 1))  (k : GG g x nL Q kc ks y M (pc + 1) L (.long (a &&& b) :: S)) : GG g x nL Q kc ks y M pc L (.long b :: .long a :: S) :=
  fun H locs ls h1 h2 h4 => lv_land C.1 C.2.1 (dcg T hi)  (k H locs ls h1 h2 h4)
theorem g_lshl (C : CX g x own cc nL d mc ms) (T : dck cc tb = true) {a : Int64} {b : Int32} (hi : tb[i]? = some (pc, .lshl, 1))  (k : GG g x nL Q kc ks y M (pc + 1) L (.long (a <<< (b.toInt64 &&& 63)) :: S)) : GG g x nL Q kc ks y M pc L (.int b :: .long a :: S) :=
  fun H locs ls h1 h2 h4 => lv_lshl C.1 C.2.1 (dcg T hi) rfl (k H locs ls h1 h2 h4)
theorem g_lushr (C : CX g x own cc nL d mc ms) (T : dck cc tb = true) {a : Int64} {b : Int32} (hi : tb[i]? = some (pc, .lushr, 1))  (k : GG g x nL Q kc ks y M (pc + 1) L (.long ((a.toUInt64 >>> (b.toInt64.toUInt64 &&& Int64.toUInt64 63)).toInt64) :: S)) : GG g x nL Q kc ks y M pc L (.int b :: .long a :: S) :=
  fun H locs ls h1 h2 h4 => lv_lushr C.1 C.2.1 (dcg T hi) rfl (k H locs ls h1 h2 h4)
theorem g_i2l (C : CX g x own cc nL d mc ms) (T : dck cc tb = true) {a : Int32} (hi : tb[i]? = some (pc, .i2l, 1))  (k : GG g x nL Q kc ks y M (pc + 1) L (.long a.toInt64 :: S)) : GG g x nL Q kc ks y M pc L (.int a :: S) :=
  fun H locs ls h1 h2 h4 => lv_i2l C.1 C.2.1 (dcg T hi) rfl (k H locs ls h1 h2 h4)
theorem g_l2i (C : CX g x own cc nL d mc ms) (T : dck cc tb = true) {a : Int64} (hi : tb[i]? = some (pc, .l2i, 1))  (k : GG g x nL Q kc ks y M (pc + 1) L (.int a.toInt32 :: S)) : GG g x nL Q kc ks y M pc L (.long a :: S) :=
  fun H locs ls h1 h2 h4 => lv_l2i C.1 C.2.1 (dcg T hi) rfl (k H locs ls h1 h2 h4)
theorem g_i2b (C : CX g x own cc nL d mc ms) (T : dck cc tb = true) {a : Int32} (hi : tb[i]? = some (pc, .i2b, 1))  (k : GG g x nL Q kc ks y M (pc + 1) L (.int a.toInt8.toInt32 :: S)) : GG g x nL Q kc ks y M pc L (.int a :: S) :=
  fun H locs ls h1 h2 h4 => lv_i2b C.1 C.2.1 (dcg T hi) rfl (k H locs ls h1 h2 h4)
theorem g_dup (C : CX g x own cc nL d mc ms) (T : dck cc tb = true) {v : Value} (hi : tb[i]? = some (pc, .dup, 1)) (hv : v.category = 1) (k : GG g x nL Q kc ks y M (pc + 1) L (v :: v :: S)) : GG g x nL Q kc ks y M pc L (v :: S) :=
  fun H locs ls h1 h2 h4 => lv_dup C.1 C.2.1 (dcg T hi) ((va_cat v).trans hv) (k H locs ls h1 h2 h4)
theorem g_dup2 (C : CX g x own cc nL d mc ms) (T : dck cc tb = true) {v u : Value} (hi : tb[i]? = some (pc, .dup2, 1)) (hv : v.category = 1) (hu : u.category = 1) (k : GG g x nL Q kc ks y M (pc + 1) L (v :: u :: v :: u :: S)) : GG g x nL Q kc ks y M pc L (v :: u :: S) :=
  fun H locs ls h1 h2 h4 => lv_dup2_11 C.1 C.2.1 (dcg T hi) ((va_cat v).trans hv) ((va_cat u).trans hu) (k H locs ls h1 h2 h4)
theorem g_pop (C : CX g x own cc nL d mc ms) (T : dck cc tb = true) {v : Value} (hi : tb[i]? = some (pc, .pop, 1)) (hv : v.category = 1) (k : GG g x nL Q kc ks y M (pc + 1) L (S)) : GG g x nL Q kc ks y M pc L (v :: S) :=
  fun H locs ls h1 h2 h4 => lv_pop C.1 C.2.1 (dcg T hi) ((va_cat v).trans hv) (k H locs ls h1 h2 h4)
theorem g_lcmp (C : CX g x own cc nL d mc ms) (T : dck cc tb = true) {a b : Int64} (hi : tb[i]? = some (pc, .lcmp, 1)) (k : GG g x nL Q kc ks y M (pc + 1) L (.int (lg_cmp a b) :: S)) : GG g x nL Q kc ks y M pc L (.long b :: .long a :: S) :=
  fun H locs ls h1 h2 h4 => W.lcmp C.1 C.2.1 (dcg T hi) (k H locs ls h1 h2 h4)
theorem g_iload_n (C : CX g x own cc nL d mc ms) (T : dck cc tb = true) {j : Fin 4} {v : Int32} (hi : tb[i]? = some (pc, .iload_n j, 1)) (hl : L[(j : Nat)]? = some (some (.int v))) (k : GG g x nL Q kc ks y M (pc + 1) L (.int v :: S)) : GG g x nL Q kc ks y M pc L S :=
  fun H locs ls h1 h2 h4 => lv_iload_n C.1 C.2.1 (dcg T hi) rfl (h4.get hl) (k H locs ls h1 h2 h4)
theorem g_iload (C : CX g x own cc nL d mc ms) (T : dck cc tb = true) {j : Nat} {v : Int32} (hi : tb[i]? = some (pc, .iload j, 2)) (hl : L[j]? = some (some (.int v))) (k : GG g x nL Q kc ks y M (pc + 2) L (.int v :: S)) : GG g x nL Q kc ks y M pc L S :=
  fun H locs ls h1 h2 h4 => lv_iload C.1 C.2.1 (dcg T hi) (h4.get hl) (k H locs ls h1 h2 h4)
theorem g_lload_n (C : CX g x own cc nL d mc ms) (T : dck cc tb = true) {j : Fin 4} {v : Int64} (hi : tb[i]? = some (pc, .lload_n j, 1)) (hl : L[(j : Nat)]? = some (some (.long v))) (k : GG g x nL Q kc ks y M (pc + 1) L (.long v :: S)) : GG g x nL Q kc ks y M pc L S :=
  fun H locs ls h1 h2 h4 => lv_lload_n C.1 C.2.1 (dcg T hi) rfl (h4.get hl) (k H locs ls h1 h2 h4)
theorem g_lload (C : CX g x own cc nL d mc ms) (T : dck cc tb = true) {j : Nat} {v : Int64} (hi : tb[i]? = some (pc, .lload j, 2)) (hl : L[j]? = some (some (.long v))) (k : GG g x nL Q kc ks y M (pc + 2) L (.long v :: S)) : GG g x nL Q kc ks y M pc L S :=
  fun H locs ls h1 h2 h4 => lv_lload C.1 C.2.1 (dcg T hi) (h4.get hl) (k H locs ls h1 h2 h4)
theorem g_aload_n (C : CX g x own cc nL d mc ms) (T : dck cc tb = true) {j : Fin 4} {v : Nat} (hi : tb[i]? = some (pc, .aload_n j, 1)) (hl : L[(j : Nat)]? = some (some (.ref v))) (k : GG g x nL Q kc ks y M (pc + 1) L (.ref v :: S)) : GG g x nL Q kc ks y M pc L S :=
  fun H locs ls h1 h2 h4 => lv_aload_n C.1 C.2.1 (dcg T hi) rfl (h4.get hl) (k H locs ls h1 h2 h4)
theorem g_aload (C : CX g x own cc nL d mc ms) (T : dck cc tb = true) {j : Nat} {v : Nat} (hi : tb[i]? = some (pc, .aload j, 2)) (hl : L[j]? = some (some (.ref v))) (k : GG g x nL Q kc ks y M (pc + 2) L (.ref v :: S)) : GG g x nL Q kc ks y M pc L S :=
  fun H locs ls h1 h2 h4 => lv_aload C.1 C.2.1 (dcg T hi) (h4.get hl) (k H locs ls h1 h2 h4)
theorem g_istore_n (C : CX g x own cc nL d mc ms) (T : dck cc tb = true) {j : Fin 4} {v : Int32} (hi : tb[i]? = some (pc, .istore_n j, 1)) (hj : Nat.ble ((j : Nat) + 1) nL = true) (hn : nlo L (j : Nat) = true) (k : GG g x nL Q kc ks y M (pc + 1) (L.set (j : Nat) (some (.int v))) S) : GG g x nL Q kc ks y M pc L (.int v :: S) :=
  fun H locs ls h1 h2 h4 => lv_istore_n C.1 C.2.1 (dcg T hi) rfl h4.1 (Nat.le_of_ble_eq_true hj) rfl (fun ls' h' => k H locs ls' h1 h2 (h4.set hn h'))
theorem g_istore (C : CX g x own cc nL d mc ms) (T : dck cc tb = true) {j : Nat} {v : Int32} (hi : tb[i]? = some (pc, .istore j, 2)) (hj : Nat.ble (j + 1) nL = true) (hn : nlo L j = true) (k : GG g x nL Q kc ks y M (pc + 2) (L.set j (some (.int v))) S) : GG g x nL Q kc ks y M pc L (.int v :: S) :=
  fun H locs ls h1 h2 h4 => lv_istore C.1 C.2.1 (dcg T hi) h4.1 (Nat.le_of_ble_eq_true hj) rfl (fun ls' h' => k H locs ls' h1 h2 (h4.set hn h'))
theorem g_astore_n (C : CX g x own cc nL d mc ms) (T : dck cc tb = true) {j : Fin 4} {v : Nat} (hi : tb[i]? = some (pc, .astore_n j, 1)) (hj : Nat.ble ((j : Nat) + 1) nL = true) (hn : nlo L (j : Nat) = true) (k : GG g x nL Q kc ks y M (pc + 1) (L.set (j : Nat) (some (.ref v))) S) : GG g x nL Q kc ks y M pc L (.ref v :: S) :=
  fun H locs ls h1 h2 h4 => lv_astore_n C.1 C.2.1 (dcg T hi) rfl h4.1 (Nat.le_of_ble_eq_true hj) rfl (fun ls' h' => k H locs ls' h1 h2 (h4.set hn h'))
theorem g_astore (C : CX g x own cc nL d mc ms) (T : dck cc tb = true) {j : Nat} {v : Nat} (hi : tb[i]? = some (pc, .astore j, 2)) (hj : Nat.ble (j + 1) nL = true) (hn : nlo L j = true) (k : GG g x nL Q kc ks y M (pc + 2) (L.set j (some (.ref v))) S) : GG g x nL Q kc ks y M pc L (.ref v :: S) :=
  fun H locs ls h1 h2 h4 => lv_astore C.1 C.2.1 (dcg T hi) h4.1 (Nat.le_of_ble_eq_true hj) rfl (fun ls' h' => k H locs ls' h1 h2 (h4.set hn h'))
theorem g_lstore_n (C : CX g x own cc nL d mc ms) (T : dck cc tb = true) {j : Fin 4} {v : Int64} (hi : tb[i]? = some (pc, .lstore_n j, 1)) (hj : Nat.ble ((j : Nat) + 2) nL = true) (hn : nlo L (j : Nat) = true) (k : GG g x nL Q kc ks y M (pc + 1) ((L.set ((j : Nat) + 1) none).set (j : Nat) (some (.long v))) S) : GG g x nL Q kc ks y M pc L (.long v :: S) :=
  fun H locs ls h1 h2 h4 => lv_lstore_n C.1 C.2.1 (dcg T hi) rfl h4.1 (Nat.le_of_ble_eq_true hj) rfl (fun ls' h' => k H locs ls' h1 h2 (h4.set2 hn h'))
theorem g_iinc (C : CX g x own cc nL d mc ms) (T : dck cc tb = true) {j : Nat} {n : Int} {v : Int32} (e : Int32) (hi : tb[i]? = some (pc, .iinc j n, 3)) (hl : L[j]? = some (some (.int v))) (he : Int32.ofInt n = e) (hj : Nat.ble (j + 1) nL = true) (hn : nlo L j = true) (k : GG g x nL Q kc ks y M (pc + 3) (L.set j (some (.int (v + e)))) S) : GG g x nL Q kc ks y M pc L S :=
  fun H locs ls h1 h2 h4 => by
    subst he
    obtain ⟨kk, hk⟩ := List.getElem?_of_mem (mem_lvl.mpr ⟨j, _, rfl, hl⟩ : ((0 + j, va g (.int v)) : Nat × Value) ∈ lvl g 0 L)
    rw [Nat.zero_add] at hk
    exact lv_iinc C.1 C.2.1 (dcg T hi) h4.1 hk rfl (Nat.le_of_ble_eq_true hj) rfl (fun ls' h' => k H locs ls' h1 h2 (h4.set hn h'))
theorem g_goto (C : CX g x own cc nL d mc ms) (T : dck cc tb = true) {off : Int} (tgt : Nat) (hi : tb[i]? = some (pc, .goto off, 3)) (ht : (pc : Int) + off = (tgt : Int)) (k : GG g x nL Q kc ks y M tgt L S) : GG g x nL Q kc ks y M pc L S :=
  fun H locs ls h1 h2 h4 => lv_goto C.1 C.2.1 (dcg T hi) ht (k H locs ls h1 h2 h4)
theorem g_icmp_eq (C : CX g x own cc nL d mc ms) (T : dck cc tb = true) {a b : Int32} {off : Int} (tgt : Nat) (hi : tb[i]? = some (pc, .if_icmp .eq off, 3)) (ht : (pc : Int) + off = (tgt : Int)) (kt : a = b → GG g x nL Q kc ks y M tgt L S) (kf : ¬ (a = b) → GG g x nL Q kc ks y M (pc + 3) L S) : GG g x nL Q kc ks y M pc L (.int b :: .int a :: S) :=
  fun H locs ls h1 h2 h4 => lv_icmp_eq C.1 C.2.1 (dcg T hi) ht (fun c => kt c H locs ls h1 h2 h4) (fun c => kf c H locs ls h1 h2 h4)
theorem g_if_eq (C : CX g x own cc nL d mc ms) (T : dck cc tb = true) {a : Int32} {off : Int} (tgt : Nat) (hi : tb[i]? = some (pc, .ifCond .eq off, 3)) (ht : (pc : Int) + off = (tgt : Int)) (kt : a = 0 → GG g x nL Q kc ks y M tgt L S) (kf : ¬ (a = 0) → GG g x nL Q kc ks y M (pc + 3) L S) : GG g x nL Q kc ks y M pc L (.int a :: S) :=
  fun H locs ls h1 h2 h4 => lv_if_eq C.1 C.2.1 (dcg T hi) ht (fun c => kt c H locs ls h1 h2 h4) (fun c => kf c H locs ls h1 h2 h4)
theorem g_icmp_ne (C : CX g x own cc nL d mc ms) (T : dck cc tb = true) {a b : Int32} {off : Int} (tgt : Nat) (hi : tb[i]? = some (pc, .if_icmp .ne off, 3)) (ht : (pc : Int) + off = (tgt : Int)) (kt : ¬ a = b → GG g x nL Q kc ks y M tgt L S) (kf : a = b → GG g x nL Q kc ks y M (pc + 3) L S) : GG g x nL Q kc ks y M pc L (.int b :: .int a :: S) :=
  fun H locs ls h1 h2 h4 => lv_icmp_ne C.1 C.2.1 (dcg T hi) ht (fun c => kt c H locs ls h1 h2 h4) (fun c => kf c H locs ls h1 h2 h4)
theorem g_if_ne (C : CX g x own cc nL d mc ms) (T : dck cc tb = true) {a : Int32} {off : Int} (tgt : Nat) (hi : tb[i]? = some (pc, .ifCond .ne off, 3)) (ht : (pc : Int) + off = (tgt : Int)) (kt : ¬ a = 0 → GG g x nL Q kc ks y M tgt L S) (kf : a = 0 → GG g x nL Q kc ks y M (pc + 3) L S) : GG g x nL Q kc ks y M pc L (.int a :: S) :=
  fun H locs ls h1 h2 h4 => lv_if_ne C.1 C.2.1 (dcg T hi) ht (fun c => kt c H locs ls h1 h2 h4) (fun c => kf c H locs ls h1 h2 h4)
theorem g_icmp_lt (C : CX g x own cc nL d mc ms) (T : dck cc tb = true) {a b : Int32} {off : Int} (tgt : Nat) (hi : tb[i]? = some (pc, .if_icmp .lt off, 3)) (ht : (pc : Int) + off = (tgt : Int)) (kt : a < b → GG g x nL Q kc ks y M tgt L S) (kf : ¬ (a < b) → GG g x nL Q kc ks y M (pc + 3) L S) : GG g x nL Q kc ks y M pc L (.int b :: .int a :: S) :=
  fun H locs ls h1 h2 h4 => lv_icmp_lt C.1 C.2.1 (dcg T hi) ht (fun c => kt c H locs ls h1 h2 h4) (fun c => kf c H locs ls h1 h2 h4)
theorem g_if_lt (C : CX g x own cc nL d mc ms) (T : dck cc tb = true) {a : Int32} {off : Int} (tgt : Nat) (hi : tb[i]? = some (pc, .ifCond .lt off, 3)) (ht : (pc : Int) + off = (tgt : Int)) (kt : a < 0 → GG g x nL Q kc ks y M tgt L S) (kf : ¬ (a < 0) → GG g x nL Q kc ks y M (pc + 3) L S) : GG g x nL Q kc ks y M pc L (.int a :: S) :=
  fun H locs ls h1 h2 h4 => lv_if_lt C.1 C.2.1 (dcg T hi) ht (fun c => kt c H locs ls h1 h2 h4) (fun c => kf c H locs ls h1 h2 h4)
theorem g_icmp_ge (C : CX g x own cc nL d mc ms) (T : dck cc tb = true) {a b : Int32} {off : Int} (tgt : Nat) (hi : tb[i]? = some (pc, .if_icmp .ge off, 3)) (ht : (pc : Int) + off = (tgt : Int)) (kt : b ≤ a → GG g x nL Q kc ks y M tgt L S) (kf : ¬ (b ≤ a) → GG g x nL Q kc ks y M (pc + 3) L S) : GG g x nL Q kc ks y M pc L (.int b :: .int a :: S) :=
  fun H locs ls h1 h2 h4 => lv_icmp_ge C.1 C.2.1 (dcg T hi) ht (fun c => kt c H locs ls h1 h2 h4) (fun c => kf c H locs ls h1 h2 h4)
theorem g_if_ge (C : CX g x own cc nL d mc ms) (T : dck cc tb = true) {a : Int32} {off : Int} (tgt : Nat) (hi : tb[i]? = some (pc, .ifCond .ge off, 3)) (ht : (pc : Int) + off = (tgt : Int)) (kt : 0 ≤ a → GG g x nL Q kc ks y M tgt L S) (kf : ¬ (0 ≤ a) → GG g x nL Q kc ks y M (pc + 3) L S) : GG g x nL Q kc ks y M pc L (.int a :: S) :=
  fun H locs ls h1 h2 h4 => lv_if_ge C.1 C.2.1 (dcg T hi) ht (fun c => kt c H locs ls h1 h2 h4) (fun c => kf c H locs ls h1 h2 h4)
theorem g_icmp_gt (C : CX g x own cc nL d mc ms) (T : dck cc tb = true) {a b : Int32} {off : Int} (tgt : Nat) (hi : tb[i]? = some (pc, .if_icmp .gt off, 3)) (ht : (pc : Int) + off = (tgt : Int)) (kt : b < a → GG g x nL Q kc ks y M tgt L S) (kf : ¬ (b < a) → GG g x nL Q kc ks y M (pc + 3) L S) : GG g x nL Q kc ks y M pc L (.int b :: .int a :: S) :=
  fun H locs ls h1 h2 h4 => lv_icmp_gt C.1 C.2.1 (dcg T hi) ht (fun c => kt c H locs ls h1 h2 h4) (fun c => kf c H locs ls h1 h2 h4)
theorem g_if_gt (C : CX g x own cc nL d mc ms) (T : dck cc tb = true) {a : Int32} {off : Int} (tgt : Nat) (hi : tb[i]? = some (pc, .ifCond .gt off, 3)) (ht : (pc : Int) + off = (tgt : Int)) (kt : 0 < a → GG g x nL Q kc ks y M tgt L S) (kf : ¬ (0 < a) → GG g x nL Q kc ks y M (pc + 3) L S) : GG g x nL Q kc ks y M pc L (.int a :: S) :=
  fun H locs ls h1 h2 h4 => lv_if_gt C.1 C.2.1 (dcg T hi) ht (fun c => kt c H locs ls h1 h2 h4) (fun c => kf c H locs ls h1 h2 h4)
theorem g_icmp_le (C : CX g x own cc nL d mc ms) (T : dck cc tb = true) {a b : Int32} {off : Int} (tgt : Nat) (hi : tb[i]? = some (pc, .if_icmp .le off, 3)) (ht : (pc : Int) + off = (tgt : Int)) (kt : a ≤ b → GG g x nL Q kc ks y M tgt L S) (kf : ¬ (a ≤ b) → GG g x nL Q kc ks y M (pc + 3) L S) : GG g x nL Q kc ks y M pc L (.int b :: .int a :: S) :=
  fun H locs ls h1 h2 h4 => lv_icmp_le C.1 C.2.1 (dcg T hi) ht (fun c => kt c H locs ls h1 h2 h4) (fun c => kf c H locs ls h1 h2 h4)
theorem g_if_le (C : CX g x own cc nL d mc ms) (T : dck cc tb = true) {a : Int32} {off : Int} (tgt : Nat) (hi : tb[i]? = some (pc, .ifCond .le off, 3)) (ht : (pc : Int) + off = (tgt : Int)) (kt : a ≤ 0 → GG g x nL Q kc ks y M tgt L S) (kf : ¬ (a ≤ 0) → GG g x nL Q kc ks y M (pc + 3) L S) : GG g x nL Q kc ks y M pc L (.int a :: S) :=
  fun H locs ls h1 h2 h4 => lv_if_le C.1 C.2.1 (dcg T hi) ht (fun c => kt c H locs ls h1 h2 h4) (fun c => kf c H locs ls h1 h2 h4)
theorem g_tableIn (C : CX g x own cc nL d mc ms) (T : dck cc tb = true) {dflt lo hi' : Int} {offs : Array Int} {len : Nat} {a : Int32} (c : Int32) (tgt : Nat) (off : Int) (hi : tb[i]? = some (pc, .tableswitch dflt lo hi' offs, len)) (hc : a = c) (h : (decide (¬ c.toInt < lo) && decide (¬ hi' < c.toInt) && decide (offs[(c.toInt - lo).toNat]? = some off)) = true) (ht : (pc : Int) + off = (tgt : Int)) (k : GG g x nL Q kc ks y M tgt L S) : GG g x nL Q kc ks y M pc L (.int a :: S) :=
  fun H locs ls h1 h2 h4 => by
    subst hc
    simp only [Bool.and_eq_true, decide_eq_true_eq] at h
    exact lv_tableIn C.1 C.2.1 (dcg T hi) h.1.1 h.1.2 h.2 ht (k H locs ls h1 h2 h4)
theorem g_tableOut (C : CX g x own cc nL d mc ms) (T : dck cc tb = true) {dflt lo hi' : Int} {offs : Array Int} {len : Nat} {a : Int32} (c1 c2 : Int32) (tgt : Nat) (hi : tb[i]? = some (pc, .tableswitch dflt lo hi' offs, len)) (hc : a < c1 ∨ c2 < a) (h : (decide (c1.toInt = lo) && decide (c2.toInt = hi')) = true) (ht : (pc : Int) + dflt = (tgt : Int)) (k : GG g x nL Q kc ks y M tgt L S) : GG g x nL Q kc ks y M pc L (.int a :: S) :=
  fun H locs ls h1 h2 h4 => by
    simp only [Bool.and_eq_true, decide_eq_true_eq] at h
    refine lv_tableOut C.1 C.2.1 (dcg T hi) ?_ ht (k H locs ls h1 h2 h4)
    rw [← h.1, ← h.2]
    exact hc.imp Int32.lt_iff_toInt_lt.mp Int32.lt_iff_toInt_lt.mp
theorem g_lookup (C : CX g x own cc nL d mc ms) (T : dck cc tb = true) {dflt : Int} {ps : Array (Int × Int)} {len : Nat} {a : Int32} (tgt : Nat) (off : Int) (hi : tb[i]? = some (pc, .lookupswitch dflt ps, len)) (hp : (ps.toList.zip (ps.toList.drop 1)).all (fun (a, next) => a.1 < next.1) = true) (ho : Op.lookupswitch.offset ps.toList dflt a.toInt = off) (ht : (pc : Int) + off = (tgt : Int)) (k : GG g x nL Q kc ks y M tgt L S) : GG g x nL Q kc ks y M pc L (.int a :: S) :=
  fun H locs ls h1 h2 h4 => lv_lookup C.1 C.2.1 (dcg T hi) hp ho ht (k H locs ls h1 h2 h4)
theorem g_ldcI (C : CX g x own cc nL d mc ms) (T : dck cc tb = true) {idx : Nat} {v : Int32} (hi : tb[i]? = some (pc, .ldc idx, 2)) (hw : Cond.constant own idx v ∈ lw_tbl) (k : GG g x nL Q kc ks y M (pc + 2) L (.int v :: S)) : GG g x nL Q kc ks y M pc L S :=
  fun H locs ls h1 h2 h4 => lv_ldc C.1 C.2.1 C.2.2.2.1 (C.word hw rfl) (dcg T hi) (k H locs ls h1 h2 h4)
theorem g_ldc2 (C : CX g x own cc nL d mc ms) (T : dck cc tb = true) {idx : Nat} {v : Int64} (hi : tb[i]? = some (pc, .ldc2_w idx, 3)) (hw : Cond.constantLong own idx v ∈ lw_tbl) (k : GG g x nL Q kc ks y M (pc + 3) L (.long v :: S)) : GG g x nL Q kc ks y M pc L S :=
  fun H locs ls h1 h2 h4 => lv_ldc2 C.1 C.2.1 C.2.2.2.1 (C.word hw rfl) (dcg T hi) (k H locs ls h1 h2 h4)
end GR
end
section
/-! ===== fields, arrays, returns, calls ===== -/
theorem u2_s {α : Type} (f : Nat → Nat → α) (p k : Nat) (v : α) : u2 f p k v p k = v := by simp [u2]
theorem u2_p {α : Type} (f : Nat → Nat → α) (p k : Nat) (v : α) {a : Nat} (h : a ≠ p) : u2 f p k v a = f a := by funext b; simp [u2, h]
theorem u2_k {α : Type} (f : Nat → Nat → α) (p k : Nat) (v : α) (a : Nat) {b : Nat} (h : b ≠ k) : u2 f p k v a b = f a b := by simp [u2, h]
theorem u2_row (f : Nat → Nat → Int32) (p k : Nat) (v : Int32) : u2 f p k v p = upd (f p) k v := by funext b; simp [u2, upd]
theorem u2_rowL (f : Nat → Nat → Int64) (p k : Nat) (v : Int64) : u2 f p k v p = vp_updL (f p) k v := by funext b; simp [u2, vp_updL]
theorem ent_wI {g : GX} {y : Lay} {M : Mem} {r k : Nat} {v : Int32} : ∀ p, p ≠ r → ∀ c', entK g y (wI M r k v) p c' = entK g y M p c' := by
  intro p hp c'
  have e : (wI M r k v).1 p = M.1 p := u2_p _ _ _ _ hp
  have e2 : slot g y (wI M r k v) p c'.2 = slot g y M p c'.2 := by funext j; unfold slot; rw [e]; rfl
  unfold entK
  rw [e, e2]; rfl
theorem ent_wL {g : GX} {y : Lay} {M : Mem} {r k : Nat} {v : Int64} : ∀ p, p ≠ r → ∀ c', entK g y (wL M r k v) p c' = entK g y M p c' := by
  intro p hp c'
  have e : (wL M r k v).2.1 p = M.2.1 p := u2_p _ _ _ _ hp
  have e2 : slot g y (wL M r k v) p c'.2 = slot g y M p c'.2 := by funext j; rfl
  unfold entK
  rw [e, e2]; rfl
theorem ent_wR {g : GX} {y : Lay} {M : Mem} {r k : Nat} {v : Nat} : ∀ p, p ≠ r → ∀ c', entK g y (wR M r k v) p c' = entK g y M p c' := by
  intro p hp c'
  have e : (wR M r k v).2.2 p = M.2.2 p := u2_p _ _ _ _ hp
  have e2 : slot g y (wR M r k v) p c'.2 = slot g y M p c'.2 := by funext j; unfold slot; rw [e]; rfl
  unfold entK
  rw [e2]; rfl
theorem fs_set {α : Type} (n k : Nat) (f f' : Nat → α) (v : α) (hk : f' k = v) (ho : ∀ j, j ≠ k → f' j = f j) : ((List.range n).map f).set k v = (List.range n).map f' := by
  apply List.ext_getElem?
  intro j
  rw [List.getElem?_set, List.getElem?_map, List.getElem?_map]
  by_cases h : k = j
  · subst h
    rw [if_pos rfl]
    by_cases hn : k < n
    · rw [List.getElem?_range hn, if_pos (by simpa using hn)]; simp [hk]
    · rw [if_neg (by simpa using hn), List.getElem?_eq_none (by simpa using hn)]; rfl
  · rw [if_neg h]
    by_cases hn : j < n
    · rw [List.getElem?_range hn]; simp [ho j (fun e => h e.symm)]
    · rw [List.getElem?_eq_none (by simpa using hn)]; rfl
theorem fs_get {α : Type} {n k : Nat} (f : Nat → α) (hk : k < n) : ((List.range n).map f)[k]? = some (f k) := by
  rw [List.getElem?_map, List.getElem?_range hk]; rfl
/-- a class of the table: its words stand in the tables -/
def CLS (ci : Nat) (q : vw_C) : Prop := vwCl[ci]? = some q ∧ (∀ w ∈ u_ws q.1 q.2.1 q.2.2, w ∈ lw_tbl) ∧ (∃ ty : Nat → FieldType, ∀ k, k < q.2.2 → parseFieldDescriptor (q.2.1 k).2.2.1 = some (ty k)) ∧ (∀ a, a < q.2.2 → ∀ b, b < q.2.2 → a ≠ b → (q.2.1 a).2.1 ≠ (q.2.1 b).2.1) ∧ nfl ci = q.2.2
/-- a field by its entry in a class's pool: the class's number and the field's place -/
def FLD (own : String) (idx ci k : Nat) : Prop := ∃ q : vw_C, CLS ci q ∧ k < q.2.2 ∧ (Cond.fieldLink own idx (q.2.1 k).1 (q.2.1 k).2.1 (q.2.1 k).2.2.1 ∈ lw_tbl ∨ ∃ host : String, Cond.fieldLinkNest own idx (q.2.1 k).1 (q.2.1 k).2.1 (q.2.1 k).2.2.1 host ∈ lw_tbl)
def FLT (ci k : Nat) (ty : FieldType) (fin : Bool) : Prop := ∀ q : vw_C, vwCl[ci]? = some q → parseFieldDescriptor (q.2.1 k).2.2.1 = some ty ∧ (q.2.1 k).2.2.2 = fin
theorem lay_good (C : String) (T : u_T) (k : Nat) : goodWord (u_lay C T k) = true := by unfold u_lay; split <;> rfl
theorem uws_good {C : String} {T : u_T} {N : Nat} : ∀ w ∈ u_ws C T N, goodWord w = true := by
  intro w hw
  obtain ⟨k, -, rfl⟩ := List.mem_map.mp hw
  exact lay_good _ _ _
section GF3
variable {g : GX} {x : KX} {own : String} {cc : ByteArray} {nL d mc ms : Nat} {Q : State → Prop} {kc ks : Nat} {y : Lay} {M : Mem} {pc i : Nat} {L : List (Option Value)} {S : List Value} {tb : Tb}
theorem CX.uws (C : CX g x own cc nL d mc ms) {ci : Nat} {q : vw_C} (h : CLS ci q) : ∀ w ∈ u_ws q.1 q.2.1 q.2.2, w.before x.2.2.2.2.2.2.1 x.2.2.2.2.1 = true := fun w hw => C.word (h.2.1 w hw) (uws_good w hw)
theorem CX.nestF (C : CX g x own cc nL d mc ms) {a : String} {j : Nat} {b n e h : String} (hw : Cond.fieldLinkNest a j b n e h ∈ lw_tbl) : (Cond.fieldLinkNest a j b n e h).before x.2.2.2.2.2.2.1 x.2.2.2.2.1 = true :=
  va_Nw.use rfl (va_Nw.warmF C.2.2.2.2.2.2.2.1 (va_Nw.of rfl (C.2.2.2.2.2.2.1.1 _ hw)))
theorem CX.nestM (C : CX g x own cc nL d mc ms) {a : String} {j : Nat} {m : MethodName} {h : String} (hw : Cond.methodLinkNest a j m h ∈ lw_tbl) : va_Nw (Cond.methodLinkNest a j m h) x.2.2.2.2.1 :=
  va_Nw.warmM C.2.2.2.2.2.2.2.1 (va_Nw.of rfl (C.2.2.2.2.2.2.1.1 _ hw))
/-- reading a field -/
theorem g_getS (C : CX g x own cc nL d mc ms) (T : dck cc tb = true) {idx ci k r : Nat} {v : Value} (hi : tb[i]? = some (pc, .getfield idx, 3)) (hF : FLD own idx ci k) (hk : kd y r = (0, ci)) (hv : slot g y M r ci k = va g v) (kk : GG g x nL Q kc ks y M (pc + 3) L (v :: S)) : GG g x nL Q kc ks y M pc L (.ref r :: S) := by
  intro H locs ls h1 h2 h4
  obtain ⟨q, hc, hkN, hlk⟩ := hF
  have he : (wld g y M)[r - 1]? = some (ad g r, .inr (ci, (List.range (nfl ci)).map (slot g y M r ci))) := wld_get (g := g) (M := M) hk (show (0 : Nat) ≠ 9 by decide) h1.2
  have hfs : ((List.range (nfl ci)).map (slot g y M r ci))[k]? = some (va g v) := by rw [fs_get _ (by rw [hc.2.2.2.2]; exact hkN), hv]
  have kk' := kk H locs ls h1 h2 h4
  rcases hlk with hl | ⟨host, hl⟩
  · exact va_get (C := q.1) (T := q.2.1) (N := q.2.2) C.1 C.2.1 (C.uws hc) (fun w h => h) C.2.2.2.1 C.K h1.1 (r - 1) he hc.1 k hkN (C.word hl rfl) (fun _ h => h) hfs (dcg T hi) kk'
  · exact va_getN (C := q.1) (T := q.2.1) (N := q.2.2) C.1 C.2.1 (C.uws hc) (fun w h => h) C.2.2.2.1 C.K h1.1 (r - 1) he hc.1 k hkN (C.nestF hl) (fun _ h => h) hfs (dcg T hi) kk'
theorem g_getI (C : CX g x own cc nL d mc ms) (T : dck cc tb = true) {idx ci k r : Nat} (hi : tb[i]? = some (pc, .getfield idx, 3)) (hF : FLD own idx ci k) (ht : ftag ci k = 0) (hk : kd y r = (0, ci)) (kk : GG g x nL Q kc ks y M (pc + 3) L (.int (M.1 r k) :: S)) : GG g x nL Q kc ks y M pc L (.ref r :: S) :=
  g_getS C T hi hF hk (v := .int (M.1 r k)) (by unfold slot; rw [if_pos ht]; rfl) kk
theorem g_getR (C : CX g x own cc nL d mc ms) (T : dck cc tb = true) {idx ci k r : Nat} (hi : tb[i]? = some (pc, .getfield idx, 3)) (hF : FLD own idx ci k) (ht : ftag ci k = 1) (hk : kd y r = (0, ci)) (hn : ¬ y.2.1 r k = 0) (kk : GG g x nL Q kc ks y M (pc + 3) L (.ref (y.2.1 r k) :: S)) : GG g x nL Q kc ks y M pc L (.ref r :: S) :=
  g_getS C T hi hF hk (v := .ref (y.2.1 r k)) (by unfold slot rfv; rw [if_neg (by rw [ht]; decide), if_pos ht, if_neg hn]) kk
theorem g_getM (C : CX g x own cc nL d mc ms) (T : dck cc tb = true) {idx ci k r : Nat} (hi : tb[i]? = some (pc, .getfield idx, 3)) (hF : FLD own idx ci k) (ht : ftag ci k = 2) (hk : kd y r = (0, ci)) (hn : ¬ M.2.2 r k = 0) (kk : GG g x nL Q kc ks y M (pc + 3) L (.ref (M.2.2 r k) :: S)) : GG g x nL Q kc ks y M pc L (.ref r :: S) :=
  g_getS C T hi hF hk (v := .ref (M.2.2 r k)) (by unfold slot rfv; rw [if_neg (by rw [ht]; decide), if_neg (by rw [ht]; decide), if_neg hn]) kk
/-- writing a field that isn't final -/
theorem g_putS (C : CX g x own cc nL d mc ms) (T : dck cc tb = true) {idx ci k r : Nat} {v : Value} {ty : FieldType} {M' : Mem} (hi : tb[i]? = some (pc, .putfield idx, 3)) (hF : FLD own idx ci k) (hty : FLT ci k ty false) (hn : narrow ty (va g v) = va g v) (hfit : fits ty (va g v) = true) (hk : kd y r = (0, ci))
    (hs : slot g y M' r ci k = va g v) (ho : ∀ j, j ≠ k → slot g y M' r ci j = slot g y M r ci j) (hp : ∀ p, p ≠ r → ∀ c', entK g y M' p c' = entK g y M p c')
    (kk : GG g x nL Q kc ks y M' (pc + 3) L S) : GG g x nL Q kc ks y M pc L (v :: .ref r :: S) := by
  intro H locs ls h1 h2 h4
  obtain ⟨q, hc, hkN, hlk⟩ := hF
  obtain ⟨hty1, hty2⟩ := hty q hc.1
  have he : (wld g y M)[r - 1]? = some (ad g r, .inr (ci, (List.range (nfl ci)).map (slot g y M r ci))) := wld_get (g := g) (M := M) hk (show (0 : Nat) ≠ 9 by decide) h1.2
  have hfs : ((List.range (nfl ci)).map (slot g y M r ci)).set k (va g v) = (List.range (nfl ci)).map (slot g y M' r ci) := fs_set _ _ _ _ _ hs ho
  have hw : (wld g y M).set (r - 1) (ad g r, .inr (ci, ((List.range (nfl ci)).map (slot g y M r ci)).set k (va g v))) = wld g y M' := wld_set (g := g) (M := M) (M' := M') hk (show (0 : Nat) ≠ 9 by decide) h1.2 (by rw [hfs]; rfl) hp
  have hl : k < ((List.range (nfl ci)).map (slot g y M r ci)).length := by rw [List.length_map, List.length_range, hc.2.2.2.2]; exact hkN
  obtain ⟨ty0, hty0⟩ := hc.2.2.1
  have fin : ∀ (H1 : Heap) (locs1 : List Loc), va_P g.2.1 vwCl ((wld g y M).set (r - 1) (ad g r, .inr (ci, ((List.range (nfl ci)).map (slot g y M r ci)).set k (va g v)))) H1 → va_D (Ag g) ((wld g y M).set (r - 1) (ad g r, .inr (ci, ((List.range (nfl ci)).map (slot g y M r ci)).set k (va g v)))) → va_S (Ag g) x.2.2.2.2.1.heap H1 locs1 → WX x H1 locs1 kc ks Q (F0 x.2.2.2.2.2.1 (pc + 3) ls (S.map (va g))) := fun H1 locs1 a b c => kk H1 locs1 ls ⟨by rw [← hw]; exact a, h1.2⟩ c h4
  rcases hlk with hlk | ⟨host, hlk⟩
  · exact va_put (C := q.1) (T := q.2.1) (N := q.2.2) C.1 C.2.1 (C.uws hc) (fun w h => h) ty0 hty0 hc.2.2.2.1 C.2.2.2.1 C.K h1.1 wld_D h2 (r - 1) he hc.1 k hkN (C.word hlk rfl) (fun _ h => h) hty2 hty1 hn hfit hl (dcg T hi) fin
  · exact va_putN (C := q.1) (T := q.2.1) (N := q.2.2) C.1 C.2.1 (C.uws hc) (fun w h => h) ty0 hty0 hc.2.2.2.1 C.2.2.2.1 C.K h1.1 wld_D h2 (r - 1) he hc.1 k hkN (C.nestF hlk) (fun _ h => h) hty2 hty1 hn hfit hl (dcg T hi) fin
theorem g_putI (C : CX g x own cc nL d mc ms) (T : dck cc tb = true) {idx ci k r : Nat} {v : Int32} (hi : tb[i]? = some (pc, .putfield idx, 3)) (hF : FLD own idx ci k) (hty : FLT ci k .int false) (ht : ftag ci k = 0) (hk : kd y r = (0, ci)) (kk : GG g x nL Q kc ks y (wI M r k v) (pc + 3) L S) : GG g x nL Q kc ks y M pc L (.int v :: .ref r :: S) :=
  g_putS C T (v := .int v) hi hF hty rfl rfl hk (by unfold slot; rw [if_pos ht]; show Value.int (u2 M.1 r k v r k) = _; rw [u2_s]; rfl) (fun j hj => by unfold slot; rw [show (wI M r k v).1 r j = M.1 r j from u2_k _ _ _ _ _ hj]; rfl) ent_wI kk
theorem g_putZ (C : CX g x own cc nL d mc ms) (T : dck cc tb = true) {idx ci k r : Nat} {v : Int32} (hi : tb[i]? = some (pc, .putfield idx, 3)) (hF : FLD own idx ci k) (hty : FLT ci k .boolean false) (ht : ftag ci k = 0) (hv : v = 0 ∨ v = 1) (hk : kd y r = (0, ci)) (kk : GG g x nL Q kc ks y (wI M r k v) (pc + 3) L S) : GG g x nL Q kc ks y M pc L (.int v :: .ref r :: S) :=
  g_putS C T (v := .int v) hi hF hty (by rcases hv with rfl | rfl <;> rfl) (by rcases hv with rfl | rfl <;> rfl) hk (by unfold slot; rw [if_pos ht]; show Value.int (u2 M.1 r k v r k) = _; rw [u2_s]; rfl) (fun j hj => by unfold slot; rw [show (wI M r k v).1 r j = M.1 r j from u2_k _ _ _ _ _ hj]; rfl) ent_wI kk
theorem g_putM (C : CX g x own cc nL d mc ms) (T : dck cc tb = true) {idx ci k r v : Nat} {ty : FieldType} (hi : tb[i]? = some (pc, .putfield idx, 3)) (hF : FLD own idx ci k) (hty : FLT ci k ty false) (hr : (∃ s, ty = .object s) ∨ ∃ s, ty = .array s) (ht : ftag ci k = 2) (hv : ¬ v = 0) (hk : kd y r = (0, ci)) (kk : GG g x nL Q kc ks y (wR M r k v) (pc + 3) L S) : GG g x nL Q kc ks y M pc L (.ref v :: .ref r :: S) :=
  g_putS C T (v := .ref v) hi hF hty (by rcases hr with ⟨s, rfl⟩ | ⟨s, rfl⟩ <;> rfl) (by rcases hr with ⟨s, rfl⟩ | ⟨s, rfl⟩ <;> rfl) hk (by unfold slot; rw [if_neg (by rw [ht]; decide), if_neg (by rw [ht]; decide)]; show va g (rfv (u2 M.2.2 r k v r k)) = _; rw [u2_s]; unfold rfv; rw [if_neg hv]) (fun j hj => by unfold slot; rw [show (wR M r k v).2.2 r j = M.2.2 r j from u2_k _ _ _ _ _ hj]; rfl) ent_wR kk
-- arrays
theorem g_iald (C : CX g x own cc nL d mc ms) (T : dck cc tb = true) {r : Nat} {j : Int32} (hi : tb[i]? = some (pc, .iaload, 1)) (hk : (kd y r).1 = 1 ∧ ¬ (j < 0 ∨ (kd y r).2 ≤ j.toNatClampNeg)) (kk : GG g x nL Q kc ks y M (pc + 1) L (.int (M.1 r j.toNatClampNeg) :: S)) : GG g x nL Q kc ks y M pc L (.int j :: .ref r :: S) := by
  intro H locs ls h1 h2 h4
  have he := wld_get (g := g) (M := M) (r := r) (c := kd y r) rfl (by rw [hk.1]; decide) h1.2
  unfold entK at he
  rw [if_neg (by rw [hk.1]; decide), if_pos hk.1] at he
  exact va_iald C.1 C.2.1 C.K h1.1 (r - 1) 0 he rfl hk.2 (dcg T hi) (kk H locs ls h1 h2 h4)
theorem g_bald (C : CX g x own cc nL d mc ms) (T : dck cc tb = true) {r : Nat} {j : Int32} (hi : tb[i]? = some (pc, .baload, 1)) (hk : (kd y r).1 = 2 ∧ ¬ (j < 0 ∨ (kd y r).2 ≤ j.toNatClampNeg)) (kk : GG g x nL Q kc ks y M (pc + 1) L (.int (M.1 r j.toNatClampNeg) :: S)) : GG g x nL Q kc ks y M pc L (.int j :: .ref r :: S) := by
  intro H locs ls h1 h2 h4
  have he := wld_get (g := g) (M := M) (r := r) (c := kd y r) rfl (by rw [hk.1]; decide) h1.2
  unfold entK at he
  rw [if_neg (by rw [hk.1]; decide), if_neg (by rw [hk.1]; decide), if_pos hk.1] at he
  exact va_bald C.1 C.2.1 C.K h1.1 (r - 1) 1 he rfl hk.2 (dcg T hi) (kk H locs ls h1 h2 h4)
theorem g_lald (C : CX g x own cc nL d mc ms) (T : dck cc tb = true) {r : Nat} {j : Int32} (hi : tb[i]? = some (pc, .laload, 1)) (hk : (kd y r).1 = 3 ∧ ¬ (j < 0 ∨ (kd y r).2 ≤ j.toNatClampNeg)) (kk : GG g x nL Q kc ks y M (pc + 1) L (.long (M.2.1 r j.toNatClampNeg) :: S)) : GG g x nL Q kc ks y M pc L (.int j :: .ref r :: S) := by
  intro H locs ls h1 h2 h4
  have he := wld_get (g := g) (M := M) (r := r) (c := kd y r) rfl (by rw [hk.1]; decide) h1.2
  unfold entK at he
  rw [if_neg (by rw [hk.1]; decide), if_neg (by rw [hk.1]; decide), if_neg (by rw [hk.1]; decide), if_pos hk.1] at he
  exact va_lald C.1 C.2.1 C.K h1.1 (r - 1) 2 he rfl hk.2 (dcg T hi) (kk H locs ls h1 h2 h4)
theorem g_aald (C : CX g x own cc nL d mc ms) (T : dck cc tb = true) {r : Nat} {j : Int32} (hi : tb[i]? = some (pc, .aaload, 1)) (hk : (kd y r).1 = 4 ∧ ¬ (j < 0 ∨ (kd y r).2 ≤ j.toNatClampNeg)) (hn : ¬ y.2.1 r j.toNatClampNeg = 0) (kk : GG g x nL Q kc ks y M (pc + 1) L (.ref (y.2.1 r j.toNatClampNeg) :: S)) : GG g x nL Q kc ks y M pc L (.int j :: .ref r :: S) := by
  intro H locs ls h1 h2 h4
  have he := wld_get (g := g) (M := M) (r := r) (c := kd y r) rfl (by rw [hk.1]; decide) h1.2
  unfold entK at he
  rw [if_neg (by rw [hk.1]; decide), if_neg (by rw [hk.1]; decide), if_neg (by rw [hk.1]; decide), if_neg (by rw [hk.1]; decide)] at he
  refine va_aldq C.1 C.2.1 C.K h1.1 (r - 1) 3 he rfl hk.2 (dcg T hi) ?_
  have e : ado g (y.2.1 r j.toNatClampNeg) = some (ad g (y.2.1 r j.toNatClampNeg)) := if_neg hn
  simp only [e]
  exact kk H locs ls h1 h2 h4
theorem g_alen (C : CX g x own cc nL d mc ms) (T : dck cc tb = true) {r t : Nat} (hi : tb[i]? = some (pc, .arraylength, 1)) (hk : (kd y r).1 = t) (ht : t = 1 ∨ t = 2 ∨ t = 3 ∨ t = 4) (kk : GG g x nL Q kc ks y M (pc + 1) L (.int (Int32.ofNat (kd y r).2) :: S)) : GG g x nL Q kc ks y M pc L (.ref r :: S) := by
  intro H locs ls h1 h2 h4
  have he := wld_get (g := g) (M := M) (r := r) (c := kd y r) rfl (by rw [hk]; rcases ht with rfl | rfl | rfl | rfl <;> decide) h1.2
  have kk' := kk H locs ls h1 h2 h4
  rcases ht with rfl | rfl | rfl | rfl <;> simp [entK, hk] at he
  · exact va_alen C.1 C.2.1 C.K h1.1 (r - 1) 0 he rfl rfl (dcg T hi) kk'
  · exact va_alen C.1 C.2.1 C.K h1.1 (r - 1) 1 he rfl rfl (dcg T hi) kk'
  · exact va_alen C.1 C.2.1 C.K h1.1 (r - 1) 2 he rfl rfl (dcg T hi) kk'
  · exact va_alen C.1 C.2.1 C.K h1.1 (r - 1) 3 he rfl rfl (dcg T hi) kk'
theorem g_iast (C : CX g x own cc nL d mc ms) (T : dck cc tb = true) {r : Nat} {j v : Int32} (hi : tb[i]? = some (pc, .iastore, 1)) (hk : (kd y r).1 = 1 ∧ ¬ (j < 0 ∨ (kd y r).2 ≤ j.toNatClampNeg)) (kk : GG g x nL Q kc ks y (wI M r j.toNatClampNeg v) (pc + 1) L S) : GG g x nL Q kc ks y M pc L (.int v :: .int j :: .ref r :: S) := by
  intro H locs ls h1 h2 h4
  have he := wld_get (g := g) (M := M) (r := r) (c := kd y r) rfl (by rw [hk.1]; decide) h1.2
  have hw : (wld g y M).set (r - 1) (ad g r, .inl (g.2.2.1 0, (kd y r).2, .inl (upd (M.1 r) j.toNatClampNeg v))) = wld g y (wI M r j.toNatClampNeg v) :=
    wld_set (c := kd y r) rfl (by rw [hk.1]; decide) h1.2 (by unfold entK; rw [if_neg (by rw [hk.1]; decide), if_pos hk.1]; show Sum.inl (_, _, Sum.inl (u2 M.1 r _ v r)) = _; rw [u2_row]) ent_wI
  unfold entK at he
  rw [if_neg (by rw [hk.1]; decide), if_pos hk.1] at he
  exact va_iast C.1 C.2.1 C.K h1.1 wld_D h2 (r - 1) 0 he rfl hk.2 (dcg T hi) (fun H1 locs1 a b c => kk H1 locs1 ls ⟨by rw [← hw]; exact a, h1.2⟩ c h4)
theorem g_bast (C : CX g x own cc nL d mc ms) (T : dck cc tb = true) {r : Nat} {j v : Int32} (hi : tb[i]? = some (pc, .bastore, 1)) (hk : (kd y r).1 = 2 ∧ ¬ (j < 0 ∨ (kd y r).2 ≤ j.toNatClampNeg)) (kk : GG g x nL Q kc ks y (wI M r j.toNatClampNeg v.toInt8.toInt32) (pc + 1) L S) : GG g x nL Q kc ks y M pc L (.int v :: .int j :: .ref r :: S) := by
  intro H locs ls h1 h2 h4
  have he := wld_get (g := g) (M := M) (r := r) (c := kd y r) rfl (by rw [hk.1]; decide) h1.2
  have hw : (wld g y M).set (r - 1) (ad g r, .inl (g.2.2.1 1, (kd y r).2, .inl (upd (M.1 r) j.toNatClampNeg (vp_nar .byte v)))) = wld g y (wI M r j.toNatClampNeg v.toInt8.toInt32) :=
    wld_set (c := kd y r) rfl (by rw [hk.1]; decide) h1.2 (by unfold entK; rw [if_neg (by rw [hk.1]; decide), if_neg (by rw [hk.1]; decide), if_pos hk.1]; show Sum.inl (_, _, Sum.inl (u2 M.1 r _ _ r)) = _; rw [u2_row, vp_nar_byte]) ent_wI
  unfold entK at he
  rw [if_neg (by rw [hk.1]; decide), if_neg (by rw [hk.1]; decide), if_pos hk.1] at he
  exact va_bast C.1 C.2.1 C.K h1.1 wld_D h2 (r - 1) 1 he rfl hk.2 (dcg T hi) (fun H1 locs1 a b c => kk H1 locs1 ls ⟨by rw [← hw]; exact a, h1.2⟩ c h4)
theorem g_last (C : CX g x own cc nL d mc ms) (T : dck cc tb = true) {r : Nat} {j : Int32} {v : Int64} (hi : tb[i]? = some (pc, .lastore, 1)) (hk : (kd y r).1 = 3 ∧ ¬ (j < 0 ∨ (kd y r).2 ≤ j.toNatClampNeg)) (kk : GG g x nL Q kc ks y (wL M r j.toNatClampNeg v) (pc + 1) L S) : GG g x nL Q kc ks y M pc L (.long v :: .int j :: .ref r :: S) := by
  intro H locs ls h1 h2 h4
  have he := wld_get (g := g) (M := M) (r := r) (c := kd y r) rfl (by rw [hk.1]; decide) h1.2
  have hw : (wld g y M).set (r - 1) (ad g r, .inl (g.2.2.1 2, (kd y r).2, .inr (.inl (vp_updL (M.2.1 r) j.toNatClampNeg v)))) = wld g y (wL M r j.toNatClampNeg v) :=
    wld_set (c := kd y r) rfl (by rw [hk.1]; decide) h1.2 (by unfold entK; rw [if_neg (by rw [hk.1]; decide), if_neg (by rw [hk.1]; decide), if_neg (by rw [hk.1]; decide), if_pos hk.1]; show Sum.inl (_, _, Sum.inr (Sum.inl (u2 M.2.1 r _ _ r))) = _; rw [u2_rowL]) ent_wL
  unfold entK at he
  rw [if_neg (by rw [hk.1]; decide), if_neg (by rw [hk.1]; decide), if_neg (by rw [hk.1]; decide), if_pos hk.1] at he
  exact va_last C.1 C.2.1 C.K h1.1 wld_D h2 (r - 1) 2 he rfl hk.2 (dcg T hi) (fun H1 locs1 a b c => kk H1 locs1 ls ⟨by rw [← hw]; exact a, h1.2⟩ c h4)
end GF3
end
section
/-! ===== contracts of methods that throw nothing and make nothing; their start, end and call ===== -/
def pm (M : Mem) (f : Option Int32) : Option (Int32 × Mem) := f.map (fun r => (r, M))
theorem pm_e {M : Mem} {f : Option Int32} {o : Int32 × Mem} (h : pm M f = some o) : ∃ r, f = some r ∧ o = (r, M) := by
  unfold pm at h
  cases f with
  | none => cases h
  | some r => cases h; exact ⟨r, rfl, rfl⟩
theorem pm_s {M : Mem} {f : Option Int32} {r : Int32} (h : f = some r) : pm M f = some (r, M) := by rw [h]; rfl
/-- a pure call -/
def cp {β : Type} (x : Option Int32) (k : Int32 → Option β) : Option β := match x with
  | some r => k r
  | none => none
theorem cp_e {β : Type} {x : Option Int32} {k : Int32 → Option β} {o : β} (h : cp x k = some o) : ∃ r, x = some r ∧ k r = some o := by
  unfold cp at h; split at h
  · exact ⟨_, rfl, h⟩
  · cases h
def resv (rv : Bool) (r : Int32) : List Value := if rv then [.int r] else []
def QK (g : GX) (rv : Bool) (y : Lay) (out : Int32 × Mem) : Array Value → State → Outcome → State → Prop := fun _ st o t => o = .returned (if rv then some (.int out.1) else none) ∧ RelH g y out.2 t.heap ∧ va_F (Ag g) st t
def PK (g : GX) (y : Lay) (av : List Value) (M : Mem) : Array Value → State → Prop := fun v U => v = (av.map (va g)).toArray ∧ RelH g y M U.heap ∧ g.1.WarmedH U.vm ∧ bs g ≤ U.heap.size ∧ ∀ q, q < bs g → U.heap[q]? = g.1.heap[q]?
theorem PK_blind {g : GX} {y : Lay} {av : List Value} {M : Mem} : FrameBlind (PK g y av M) := fun _ _ _ _ h => h
def C0 (g : GX) (l : Launch) (yn : MethodName) (cc : ByteArray) (maxL : Nat) (ret : Option FieldType) (d : Nat) (y : Lay) (av : List Value) (M : Mem) (f : Option (Int32 × Mem)) : Prop :=
  ∀ out, f = some out → Met l yn [Cond.code yn cc maxL ret] (rmD d 0 0) (PK g y av M) (QK g ret.isSome y out) 0 0 (Ag g)
/-- what a body owes at its end -/
def RT0 (g : GX) (x : KX) (Q : State → Prop) (ret : Option FieldType) (y : Lay) (out : Int32 × Mem) : Prop :=
  Q = MQ x.2.2.2.2.2.2.2.1 (QK g ret.isSome y out) x.2.2.2.2.2.2.1 x.2.2.2.2.1 0 0 (Ag g) ∧ x.2.2.2.2.2.2.2.2.1.sig.returnType = ret
def argL (av : List Value) : List (Option Value) := av.flatMap (fun v => if v.category = 2 then [some v, none] else [some v])
theorem lvl_none {g : GX} (n : Nat) : ∀ k, lvl g k (List.replicate n none) = [] := by
  induction n with
  | zero => intro k; rfl
  | succ n ih => intro k; exact ih (k + 1)
theorem lvl_args {g : GX} {n : Nat} : ∀ (av : List Value) (k : Nat), lvl g k (argL av ++ List.replicate n none) = lv_args k (av.map (va g)) := by
  intro av
  induction av with
  | nil => intro k; exact lvl_none n k
  | cons v av ih =>
    intro k
    have hc := va_cat (g := g) v
    show lvl g k (argL (v :: av) ++ _) = _
    have e : argL (v :: av) = (if v.category = 2 then [some v, none] else [some v]) ++ argL av := rfl
    rw [e]
    by_cases h : v.category = 2
    · rw [if_pos h]
      show (k, va g v) :: lvl g (k + 1 + 1) (argL av ++ _) = lv_args k (va g v :: av.map (va g))
      rw [ih]
      simp [lv_args, hc, h]
    · rw [if_neg h]
      show (k, va g v) :: lvl g (k + 1) (argL av ++ _) = lv_args k (va g v :: av.map (va g))
      rw [ih]
      simp [lv_args, hc, h]
theorem sl_len {g : GX} : ∀ av : List Value, (lg_sl (av.map (va g))).length = (argL av).length := by
  intro av
  induction av with
  | nil => rfl
  | cons v av ih =>
    have e1 : lg_sl ((v :: av).map (va g)) = (if (va g v).category = 2 then [.val (va g v), .second] else [.val (va g v)]) ++ lg_sl (av.map (va g)) := rfl
    have e2 : argL (v :: av) = (if v.category = 2 then [some v, none] else [some v]) ++ argL av := rfl
    rw [e1, e2, List.length_append, List.length_append, ih, va_cat]
    congr 1
    split <;> rfl
/-- the start of a walk -/
theorem start_LV {g : GX} {av : List Value} {maxL : Nat} {L0 : List (Option Value)} (hL : argL av ++ List.replicate (maxL - (argL av).length) none = L0) (hn : (argL av).length ≤ maxL) : LV g maxL ((lg_sl (av.map (va g)) ++ List.replicate (maxL - (lg_sl (av.map (va g))).length) Slot.unset).toArray) L0 := by
  subst hL
  refine ⟨?_, ?_⟩
  · rw [lvl_args]
    exact lv_entry _ (by rw [sl_len]; exact hn)
  · rw [List.length_append, List.length_replicate]; omega
theorem C0_of {g : GX} {l : Launch} {yn : MethodName} {cc : ByteArray} {maxL : Nat} {ret : Option FieldType} {d : Nat} {y : Lay} {av : List Value} {M : Mem} {f : Option (Int32 × Mem)} (hG : GF g l) (hy : plainName yn.cls = true) (L0 : List (Option Value)) (hL : argL av ++ List.replicate (maxL - (argL av).length) none = L0) (hn : Nat.ble (argL av).length maxL = true)
    (body : ∀ out, f = some out → ∀ (x : KX) (Q : State → Prop), CX g x yn.cls cc maxL d 0 0 → RT0 g x Q ret y out → GG g x maxL Q 0 0 y M 0 L0 []) : C0 g l yn cc maxL ret d y av M f := by
  intro out hf
  refine Met.ofW (cc := cc) (maxL := maxL) (ret := ret) hy rfl ?_
  intro p e s m args below meth c s₁ B hml hP
  obtain ⟨rfl, hR, hW, hb, hlow⟩ := hP
  have C : CX g (p, l, e, rmD d 0 0, s, m, (av.map (va g)).toArray, below, meth, c) yn.cls cc maxL d 0 0 := ⟨B.exec, B.bytes, hml, findClass_of_methodNamed B.named, B.notSynchronized, ⟨Nat.le_refl _, Nat.le_refl _, rfl, rfl⟩, hG, hW, hb, hlow⟩
  rw [lg_entry_eq]
  exact body out hf _ _ C ⟨rfl, B.returns⟩ s.heap [] _ hR va_S.rf (start_LV hL (Nat.le_of_ble_eq_true hn))
section GR4
variable {g : GX} {x : KX} {own : String} {cc : ByteArray} {nL d mc ms : Nat} {Q : State → Prop} {kc ks : Nat} {y : Lay} {M : Mem} {pc i : Nat} {L : List (Option Value)} {S : List Value} {tb : Tb}
theorem g_iret0 (C : CX g x own cc nL d mc ms) {e : Int32} (R : RT0 g x Q (some .int) y (e, M)) (T : dck cc tb = true) (hi : tb[i]? = some (pc, .ireturn, 1)) : GG g x nL Q 0 0 y M pc L [.int e] := by
  intro H locs ls h1 h2 h4
  obtain ⟨rfl, hr⟩ := R
  exact W.iret C.1 C.2.1 hr (fun t ht hw => ⟨rfl, by rw [ht]; exact h1, h2.F ht⟩) (fun q hq => h2.2.2 q hq) (dcg T hi) C.2.2.2.2.1
theorem g_zret0 (C : CX g x own cc nL d mc ms) {e : Int32} (R : RT0 g x Q (some .boolean) y (e, M)) (he : e = 0 ∨ e = 1) (T : dck cc tb = true) (hi : tb[i]? = some (pc, .ireturn, 1)) : GG g x nL Q 0 0 y M pc L [.int e] := by
  intro H locs ls h1 h2 h4
  obtain ⟨rfl, hr⟩ := R
  exact W.zret C.1 C.2.1 hr (by rcases he with rfl | rfl <;> rfl) (fun t ht hw => ⟨rfl, by rw [ht]; exact h1, h2.F ht⟩) (fun q hq => h2.2.2 q hq) (dcg T hi) C.2.2.2.2.1
theorem g_vret0 (C : CX g x own cc nL d mc ms) {e : Int32} (R : RT0 g x Q none y (e, M)) (T : dck cc tb = true) (hi : tb[i]? = some (pc, .return_, 1)) : GG g x nL Q 0 0 y M pc L [] := by
  intro H locs ls h1 h2 h4
  obtain ⟨rfl, hr⟩ := R
  exact W.vret C.1 C.2.1 hr (fun t ht hw => ⟨rfl, by rw [ht]; exact h1, h2.F ht⟩) (fun q hq => h2.2.2 q hq) (dcg T hi) C.2.2.2.2.1
/-- a callee's own words -/
def MW (yn : MethodName) (cc : ByteArray) (maxL : Nat) (ret : Option FieldType) (n : Nat) : Prop :=
  Cond.code yn cc maxL ret ∈ lw_tbl ∧ Cond.initialized yn.cls ∈ lw_tbl ∧ (yn.cls ≠ "java/lang/invoke/MethodHandle" ∧ yn.cls ≠ "java/lang/invoke/VarHandle") ∧ (parseMethodDescriptor yn.desc).map (fun d => d.parameters.length) = some n
/-- its words as an instance method, picked by its class's number -/
def MV (ci : Nat) (yn : MethodName) : Prop := Cond.instanceMethod yn ∈ lw_tbl ∧ Cond.selects yn.cls yn yn ∈ lw_tbl ∧ (vwCl[ci]?).map (fun q => q.1) = some yn.cls
theorem callB0 (C : CX g x own cc nL d mc ms) {idx : Nat} {yn : MethodName} {c2 : ByteArray} {maxL n d2 m2 s2 : Nat} {ret : Option FieldType} (hW : MW yn c2 maxL ret n) (hl : Cond.methodLink own idx yn ∈ lw_tbl) (hd : Nat.ble (d2 + 1) d = true) (hm : Nat.ble maxL 80 = true) :
    CallB x.2.2.2.1 x.2.2.2.2.1 x.2.2.2.2.2.2.1 own idx yn c2 maxL ret [Cond.code yn c2 maxL ret] (rmD d2 m2 s2) m2 s2 n := by
  have h1 : d2 + 1 ≤ d := Nat.le_of_ble_eq_true hd
  have h2 : maxL ≤ 80 := Nat.le_of_ble_eq_true hm
  have h3 : 8 + (maxL + 11) + (100 * d2 + 300) ≤ 100 * d + 300 := by omega
  have h4 : d2 + 10 + 1 ≤ d + 10 := by omega
  obtain ⟨r1, r2, -, -⟩ : RLE x.2.2.2.1 d mc ms := C.2.2.2.2.2.1
  refine ⟨rfl, rfl, ?_, ?_, ?_, List.mem_singleton_self _, C.word hW.1 rfl, C.word hW.2.1 rfl, hW.2.2.1, ?_, C.word hl rfl⟩
  · exact Nat.le_trans h4 r1
  · exact Nat.le_trans h3 r2
  · intro w hw a' U hWm
    rw [List.mem_singleton.mp hw]
    exact word_at hWm (good_of_word rfl) (C.word hW.1 rfl)
  · intro sig h
    have h3 := hW.2.2.2
    rw [h] at h3
    exact (Option.some.inj h3).symm
theorem preV0 (C : CX g x own cc nL d mc ms) {H : Heap} {locs : List Loc} {ci b : Nat} {yn : MethodName} {av : List Value} (h1 : RelH g y M H) (h2 : va_S (Ag g) x.2.2.2.2.1.heap H locs) (hk : kd y b = (0, ci)) (hv : MV ci yn) : PreV x.2.2.2.2.1 H yn.cls (ad g b) (PK g y (.ref b :: av) M) (av.map (va g)) := by
  have he : (wld g y M)[b - 1]? = some (ad g b, .inr (ci, (List.range (nfl ci)).map (slot g y M b ci))) := wld_get (g := g) (M := M) hk (show (0 : Nat) ≠ 9 by decide) h1.2
  obtain ⟨r, hr, cell, c1, c2, c3, -⟩ := h1.1 (b - 1) _ he
  have hcl : r.1 = yn.cls := by
    have h3 := hv.2.2
    rw [hr] at h3
    exact Option.some.inj h3
  refine ⟨PK_blind, ⟨cell, c1, by rw [c3]; rfl, ?_⟩, fun U hU hW => ⟨rfl, by rw [hU]; exact h1, State.WarmedH.trans C.2.2.2.2.2.2.2.1 hW, ?_, ?_⟩⟩
  · rw [c2, ← hcl]
    have := (C.K.1 ci r hr).2
    exact this.1
  · rw [hU]; exact Nat.le_trans C.2.2.2.2.2.2.2.2.1 h2.1
  · intro q hq
    rw [hU, h2.2.1 q (Nat.lt_of_lt_of_le hq C.2.2.2.2.2.2.2.2.1) (Nat.not_le.mpr hq)]
    exact C.2.2.2.2.2.2.2.2.2 q hq
theorem preS0 (C : CX g x own cc nL d mc ms) {H : Heap} {locs : List Loc} {av : List Value} (h1 : RelH g y M H) (h2 : va_S (Ag g) x.2.2.2.2.1.heap H locs) : PreS x.2.2.2.2.1 H (PK g y av M) (av.map (va g)) := by
  refine ⟨PK_blind, fun U hU hW => ⟨rfl, by rw [hU]; exact h1, State.WarmedH.trans C.2.2.2.2.2.2.2.1 hW, ?_, ?_⟩⟩
  · rw [hU]; exact Nat.le_trans C.2.2.2.2.2.2.2.2.1 h2.1
  · intro q hq
    rw [hU, h2.2.1 q (Nat.lt_of_lt_of_le hq C.2.2.2.2.2.2.2.2.1) (Nat.not_le.mpr hq)]
    exact C.2.2.2.2.2.2.2.2.2 q hq
/-- behind a call -/
theorem after0 {H : Heap} {locs : List Loc} {ls : Array Slot} {rv : Bool} {M1 : Mem} {r : Int32} {a : Array Value} {st0 : List Value} (h2 : va_S (Ag g) x.2.2.2.2.1.heap H locs) (h4 : LV g nL ls L)
    (hr : va_Run x.1 x.2.1 x.2.2.1 x.2.2.2.1 x.2.2.2.2.1 x.2.2.2.2.2.1 x.2.2.2.2.2.2.1 x.2.2.2.2.2.2.2.1 x.2.2.2.2.2.2.2.2.1 x.2.2.2.2.2.2.2.2.2 H locs kc ks mc ms (F0 x.2.2.2.2.2.1 pc ls st0) (S.map (va g)) (QK g rv y (r, M1) a) (Ag g))
    (k : GG g x nL Q (kc + mc) (ks + ms) y M1 (pc + 3) L (resv rv r ++ S)) : WX x H locs kc ks Q (F0 x.2.2.2.2.2.1 pc ls st0) := by
  intro T hT X
  obtain ⟨v, st₀, t, T', L', h0, X', hL, e1, e2, ⟨hv, hR, hF⟩, st⟩ := hr T hT X
  have hS : va_S (Ag g) x.2.2.2.2.1.heap T'.heap (locs ++ L') := by
    obtain ⟨hz, hk⟩ := hF
    rw [h0] at hz hk
    refine ⟨Nat.le_trans h2.1 (by rw [e1]; exact hz), fun q h5 h6 => ?_, fun q hq => ?_⟩
    · rw [e1, hk q (Nat.lt_of_lt_of_le h5 h2.1) h6]; exact h2.2.1 q h5 h6
    · rcases List.mem_append.mp hq with h | h
      · exact h2.2.2 q h
      · exact hL q h
  obtain ⟨t2, a1, b1⟩ := k T'.heap (locs ++ L') ls (by rw [e1]; exact hR) hS h4 T' rfl X'
  refine ⟨t2, st t2 ?_, b1⟩
  have ev : (if rv = true then some (Value.int r) else none).toList ++ S.map (va g) = (resv rv r ++ S).map (va g) := by
    cases rv <;> rfl
  cases hv
  show Steps _ _ _ (T'.setTop { F0 x.2.2.2.2.2.1 pc ls st0 with pc := pc + 3, stack := _ }) _
  rw [ev]
  exact a1
theorem g_callV0 (C : CX g x own cc nL d mc ms) (T : dck cc tb = true) {idx ci b n maxL d2 : Nat} {yn : MethodName} {c2 : ByteArray} {ret : Option FieldType} {f : Option (Int32 × Mem)} {r : Int32} {M1 : Mem} (av : List Value) (hi : tb[i]? = some (pc, .invokevirtual idx, 3)) (hW : MW yn c2 maxL ret n) (hV : MV ci yn) (hl : Cond.methodLink own idx yn ∈ lw_tbl) (hk : kd y b = (0, ci)) (hd : Nat.ble (d2 + 1) d = true) (hm : Nat.ble maxL 80 = true) (hn : av.length = n) (hS8 : Nat.ble ((S.map fun v => v.category).sum) 8 = true)
    (hc : C0 g x.2.1 yn c2 maxL ret d2 y (.ref b :: av) M f) (hf : f = some (r, M1)) (hkc : Nat.ble kc mc = true) (hks : Nat.ble ks ms = true) {S' : List Value} (hst : av.reverse ++ .ref b :: S = S') (k : GG g x nL Q kc ks y M1 (pc + 3) L (resv ret.isSome r ++ S)) : GG g x nL Q kc ks y M pc L S' := by
  intro H locs ls h1 h2 h4
  subst hst
  have hcw : CallW x.2.2.2.1 x.2.2.2.2.1 x.2.2.2.2.2.2.1 own yn.cls idx yn c2 maxL ret [Cond.code yn c2 maxL ret] (rmD d2 0 0) 0 0 n := ⟨callB0 C hW hl hd hm, C.word hV.1 rfl, C.word hV.2.1 rfl⟩
  have hR : RLE x.2.2.2.1 d mc ms := C.2.2.2.2.2.1
  refine after0 (mc := 0) (ms := 0) h2 h4 (va_runV ⟨C.1, C.2.1, C.2.2.1, C.2.2.2.1, fun w (hw : w ∈ ([] : List Cond)) => absurd hw List.not_mem_nil⟩ (hc _ hf) hcw (preV0 C h1 h2 hk hV) rfl ?_ h4.1.1 ?_ ?_ (dcg T hi) ?_) k
  · rw [List.length_map]; exact hn
  · show List.map (va g) (av.reverse ++ .ref b :: S) = (av.map (va g)).reverse ++ .ref (ad g b) :: S.map (va g)
    rw [List.map_append, List.map_reverse]; rfl
  · show 2 * 0 + _ ≤ 8
    have := Nat.le_of_ble_eq_true hS8
    rw [List.map_map]
    have e : (fun v => Value.category v) ∘ va g = fun v => v.category := by funext v; exact va_cat v
    rw [e]; omega
  · exact ⟨by rw [hR.2.2.1]; have := Nat.le_of_ble_eq_true hkc; omega, by rw [hR.2.2.2]; have := Nat.le_of_ble_eq_true hks; omega⟩
theorem g_callS0 (C : CX g x own cc nL d mc ms) (T : dck cc tb = true) {idx n maxL d2 : Nat} {yn : MethodName} {c2 : ByteArray} {ret : Option FieldType} {f : Option (Int32 × Mem)} {r : Int32} {M1 : Mem} (av : List Value) (hi : tb[i]? = some (pc, .invokestatic idx, 3)) (hW : MW yn c2 maxL ret n) (hV : Cond.static yn ∈ lw_tbl) (hl : Cond.methodLink own idx yn ∈ lw_tbl) (hd : Nat.ble (d2 + 1) d = true) (hm : Nat.ble maxL 80 = true) (hn : av.length = n) (hS8 : Nat.ble ((S.map fun v => v.category).sum) 8 = true)
    (hc : C0 g x.2.1 yn c2 maxL ret d2 y av M f) (hf : f = some (r, M1)) (hkc : Nat.ble kc mc = true) (hks : Nat.ble ks ms = true) {S' : List Value} (hst : av.reverse ++ S = S') (k : GG g x nL Q kc ks y M1 (pc + 3) L (resv ret.isSome r ++ S)) : GG g x nL Q kc ks y M pc L S' := by
  intro H locs ls h1 h2 h4
  subst hst
  have hR : RLE x.2.2.2.1 d mc ms := C.2.2.2.2.2.1
  refine after0 (mc := 0) (ms := 0) h2 h4 (va_runS ⟨C.1, C.2.1, C.2.2.1, C.2.2.2.1, fun w (hw : w ∈ ([] : List Cond)) => absurd hw List.not_mem_nil⟩ (hc _ hf) ⟨callB0 C hW hl hd hm, C.word hV rfl⟩ (preS0 C h1 h2) rfl ?_ h4.1.1 ?_ ?_ (dcg T hi) ?_) k
  · rw [List.length_map]; exact hn
  · show List.map (va g) (av.reverse ++ S) = (av.map (va g)).reverse ++ S.map (va g)
    rw [List.map_append, List.map_reverse]
  · show 2 * 0 + _ ≤ 8
    have := Nat.le_of_ble_eq_true hS8
    rw [List.map_map]
    have e : (fun v => Value.category v) ∘ va g = fun v => v.category := by funext v; exact va_cat v
    rw [e]; omega
  · exact ⟨by rw [hR.2.2.1]; have := Nat.le_of_ble_eq_true hkc; omega, by rw [hR.2.2.2]; have := Nat.le_of_ble_eq_true hks; omega⟩
end GR4
end
section
/-! ===== methods that may throw; the machine's own helpers ===== -/
def jmin (a b : Int32) : Int32 := if b < a then b else a
def jmax (a b : Int32) : Int32 := if a < b then b else a
def jabs (a : Int32) : Int32 := if 0 ≤ a then a else 0 - a
def gC {β : Type} (y : Lay) (a b : Nat) (sp dp n : Int32) (k : Option β) : Option β := if ((kd y a).1 = 1 ∧ (kd y b).1 = 1) ∧ (¬ sp < 0 ∧ ¬ dp < 0 ∧ ¬ n < 0) ∧ sp.toNatClampNeg + n.toNatClampNeg ≤ (kd y a).2 ∧ dp.toNatClampNeg + n.toNatClampNeg ≤ (kd y b).2 then k else none
theorem gC_e {β : Type} {y : Lay} {a b : Nat} {sp dp n : Int32} {k : Option β} {o : β} (h : gC y a b sp dp n k = some o) : (((kd y a).1 = 1 ∧ (kd y b).1 = 1) ∧ (¬ sp < 0 ∧ ¬ dp < 0 ∧ ¬ n < 0) ∧ sp.toNatClampNeg + n.toNatClampNeg ≤ (kd y a).2 ∧ dp.toNatClampNeg + n.toNatClampNeg ≤ (kd y b).2) ∧ k = some o := by
  unfold gC at h; split at h
  · exact ⟨by assumption, h⟩
  · cases h
def cx (x : Option (Nat × Int32 × Mem)) (k : Int32 → Mem → Option (Nat × Int32 × Mem)) : Option (Nat × Int32 × Mem) := match x with
  | some (0, r, M) => k r M
  | some (e + 1, r, M) => some (e + 1, r, M)
  | none => none
theorem cx_e {x : Option (Nat × Int32 × Mem)} {k : Int32 → Mem → Option (Nat × Int32 × Mem)} {o : Nat × Int32 × Mem} (h : cx x k = some o) : (∃ r M, x = some (0, r, M) ∧ k r M = some o) ∨ (x = some o ∧ o.1 ≠ 0) := by
  unfold cx at h; split at h
  · exact Or.inl ⟨_, _, rfl, h⟩
  · cases h; exact Or.inr ⟨rfl, Nat.succ_ne_zero _⟩
  · cases h
def exNm (k : Nat) : String := if k = 1 then "java/util/NoSuchElementException" else "java/lang/IllegalArgumentException"
theorem ent_cp {g : GX} {y : Lay} {M : Mem} {a b sp dp n : Nat} : ∀ p, p ≠ b → ∀ c', entK g y (cpI M a b sp dp n) p c' = entK g y M p c' := by
  intro p hp c'
  have e : (cpI M a b sp dp n).1 p = M.1 p := if_neg hp
  have e2 : slot g y (cpI M a b sp dp n) p c'.2 = slot g y M p c'.2 := by funext j; unfold slot; rw [e]; rfl
  unfold entK
  rw [e, e2]; rfl
theorem RelH.mono {g : GX} {y : Lay} {M : Mem} {H H' : Heap} (h : RelH g y M H) (hk : ∀ q : Nat, q < H.size → H'[q]? = H[q]?) : RelH g y M H' :=
  ⟨fun k q hq => (h.1 k q hq).kept (hk _ (h.1 k q hq).lt), h.2⟩
def Q1 (g : GX) (rv : Bool) (y : Lay) (out : Nat × Int32 × Mem) : Array Value → State → Outcome → State → Prop := fun a st o t => out.1 = 0 ∧ QK g rv y out.2 a st o t
def X1 (g : GX) (y : Lay) (out : Nat × Int32 × Mem) : String → State → State → Prop := fun E st t => out.1 ≠ 0 ∧ E = exNm out.1 ∧ RelH g y out.2.2 t.heap ∧ va_F (Ag g) st t
def C1 (g : GX) (l : Launch) (yn : MethodName) (cc : ByteArray) (maxL : Nat) (ret : Option FieldType) (d mc ms : Nat) (y : Lay) (av : List Value) (M : Mem) (f : Option (Nat × Int32 × Mem)) : Prop :=
  ∀ out, f = some out → vx_Met l yn [Cond.code yn cc maxL ret] (rmD d mc ms) (PK g y av M) (Q1 g ret.isSome y out) (X1 g y out) mc ms (Ag g)
def RT1 (g : GX) (x : KX) (Q : State → Prop) (ret : Option FieldType) (mc ms : Nat) (y : Lay) (out : Nat × Int32 × Mem) : Prop :=
  Q = vx_MQ x.2.2.2.2.2.2.2.1 (Q1 g ret.isSome y out) (X1 g y out) x.2.2.2.2.2.2.1 x.2.2.2.2.1 mc ms (Ag g) ∧ x.2.2.2.2.2.2.2.2.1.sig.returnType = ret ∧ ∀ e ∈ x.2.2.2.2.2.2.2.2.2.exceptionTable.toList, False
theorem C1_of {g : GX} {l : Launch} {yn : MethodName} {cc : ByteArray} {maxL : Nat} {ret : Option FieldType} {d mc ms : Nat} {y : Lay} {av : List Value} {M : Mem} {f : Option (Nat × Int32 × Mem)} (hG : GF g l) (hy : plainName yn.cls = true) (L0 : List (Option Value)) (hL : argL av ++ List.replicate (maxL - (argL av).length) none = L0) (hn : Nat.ble (argL av).length maxL = true)
    (body : ∀ out, f = some out → ∀ (x : KX) (Q : State → Prop), CX g x yn.cls cc maxL d mc ms → RT1 g x Q ret mc ms y out → GG g x maxL Q 0 0 y M 0 L0 []) : C1 g l yn cc maxL ret d mc ms y av M f := by
  intro out hf
  refine vx_ofW (cc := cc) (maxL := maxL) (ret := ret) hy rfl ?_
  intro p e s m args below meth c s₁ B hml ht hP
  obtain ⟨rfl, hR, hW, hb, hlow⟩ := hP
  have C : CX g (p, l, e, rmD d mc ms, s, m, (av.map (va g)).toArray, below, meth, c) yn.cls cc maxL d mc ms := ⟨B.exec, B.bytes, hml, findClass_of_methodNamed B.named, B.notSynchronized, ⟨Nat.le_refl _, Nat.le_refl _, rfl, rfl⟩, hG, hW, hb, hlow⟩
  rw [lg_entry_eq]
  exact body out hf _ _ C ⟨rfl, B.returns, ht⟩ s.heap [] _ hR va_S.rf (start_LV hL (Nat.le_of_ble_eq_true hn))
section GR5
variable {g : GX} {x : KX} {own : String} {cc : ByteArray} {nL d mc ms : Nat} {Q : State → Prop} {kc ks : Nat} {y : Lay} {M : Mem} {pc i : Nat} {L : List (Option Value)} {S : List Value} {tb : Tb}
theorem g_widen {k2 s2 : Nat} (h1 : Nat.ble kc k2 = true) (h2 : Nat.ble ks s2 = true) (k : GG g x nL Q k2 s2 y M pc L S) : GG g x nL Q kc ks y M pc L S :=
  fun H locs ls a b c => W.widen (Nat.le_of_ble_eq_true h1) (Nat.le_of_ble_eq_true h2) (k H locs ls a b c)
theorem g_iret1 (C : CX g x own cc nL d mc ms) {e : Int32} (R : RT1 g x Q (some .int) mc ms y (0, e, M)) (h1 : Nat.ble kc mc = true) (h2 : Nat.ble ks ms = true) (T : dck cc tb = true) (hi : tb[i]? = some (pc, .ireturn, 1)) : GG g x nL Q kc ks y M pc L [.int e] := by
  refine g_widen h1 h2 ?_
  intro H locs ls h1 h2 h4
  obtain ⟨rfl, hr, -⟩ := R
  exact vx_ret (W.iret C.1 C.2.1 hr (fun t ht hw => ⟨rfl, rfl, by rw [ht]; exact h1, h2.F ht⟩) (fun q hq => h2.2.2 q hq) (dcg T hi) C.2.2.2.2.1)
theorem g_zret1 (C : CX g x own cc nL d mc ms) {e : Int32} (R : RT1 g x Q (some .boolean) mc ms y (0, e, M)) (he : e = 0 ∨ e = 1) (h1 : Nat.ble kc mc = true) (h2 : Nat.ble ks ms = true) (T : dck cc tb = true) (hi : tb[i]? = some (pc, .ireturn, 1)) : GG g x nL Q kc ks y M pc L [.int e] := by
  refine g_widen h1 h2 ?_
  intro H locs ls h1 h2 h4
  obtain ⟨rfl, hr, -⟩ := R
  exact vx_ret (W.zret C.1 C.2.1 hr (by rcases he with rfl | rfl <;> rfl) (fun t ht hw => ⟨rfl, rfl, by rw [ht]; exact h1, h2.F ht⟩) (fun q hq => h2.2.2 q hq) (dcg T hi) C.2.2.2.2.1)
theorem g_vret1 (C : CX g x own cc nL d mc ms) {e : Int32} (R : RT1 g x Q none mc ms y (0, e, M)) (h1 : Nat.ble kc mc = true) (h2 : Nat.ble ks ms = true) (T : dck cc tb = true) (hi : tb[i]? = some (pc, .return_, 1)) : GG g x nL Q kc ks y M pc L [] := by
  refine g_widen h1 h2 ?_
  intro H locs ls h1 h2 h4
  obtain ⟨rfl, hr, -⟩ := R
  exact vx_ret (W.vret C.1 C.2.1 hr (fun t ht hw => ⟨rfl, rfl, by rw [ht]; exact h1, h2.F ht⟩) (fun q hq => h2.2.2 q hq) (dcg T hi) C.2.2.2.2.1)
/-- behind a call that may throw -/
theorem after1 (C : CX g x own cc nL d mc ms) {H : Heap} {locs : List Loc} {ls : Array Slot} {ret ret2 : Option FieldType} {m2 s2 : Nat} {out : Nat × Int32 × Mem} {f : Option (Nat × Int32 × Mem)} {K : Int32 → Mem → Option (Nat × Int32 × Mem)} {a : Array Value} {st0 : List Value} (R : RT1 g x Q ret mc ms y out) (hkc : Nat.ble (kc + m2) mc = true) (hks : Nat.ble (ks + s2) ms = true) (h2 : va_S (Ag g) x.2.2.2.2.1.heap H locs) (h4 : LV g nL ls L)
    (hr : ∀ o2, f = some o2 → vx_Run x.1 x.2.1 x.2.2.1 x.2.2.2.1 x.2.2.2.2.1 x.2.2.2.2.2.1 x.2.2.2.2.2.2.1 x.2.2.2.2.2.2.2.1 x.2.2.2.2.2.2.2.2.1 x.2.2.2.2.2.2.2.2.2 H locs kc ks m2 s2 (F0 x.2.2.2.2.2.1 pc ls st0) (S.map (va g)) (Q1 g ret2.isSome y o2 a) (X1 g y o2) (Ag g))
    (h : cx f K = some out) (k : ∀ r M1, K r M1 = some out → GG g x nL Q (kc + m2) (ks + s2) y M1 (pc + 3) L (resv ret2.isSome r ++ S)) : WX x H locs kc ks Q (F0 x.2.2.2.2.2.1 pc ls st0) := by
  have keep : ∀ {st₀ t T' : State} {L' : List Loc}, st₀.heap = H → T'.heap = t.heap → va_F (Ag g) st₀ t → (∀ q ∈ L', Ag g q.base) → va_S (Ag g) x.2.2.2.2.1.heap T'.heap (locs ++ L') := by
    intro st₀ t T' L' h0 e1 hF hL
    obtain ⟨hz, hk⟩ := hF
    rw [h0] at hz hk
    refine ⟨Nat.le_trans h2.1 (by rw [e1]; exact hz), fun q h5 h6 => ?_, fun q hq => ?_⟩
    · rw [e1, hk q (Nat.lt_of_lt_of_le h5 h2.1) h6]; exact h2.2.1 q h5 h6
    · rcases List.mem_append.mp hq with h | h
      · exact h2.2.2 q h
      · exact hL q h
  intro T hT X
  rcases cx_e h with ⟨r, M1, hf, hK⟩ | ⟨hf, hne⟩
  · rcases hr _ hf T hT X with ⟨v, st₀, t, T', L', h0, X', hL, e1, e2, ⟨-, hv, hR, hF⟩, st⟩ | ⟨q, st₀, t, T', L', E, ce, h0, X', hL, e1, e2, ⟨hn, -⟩, -⟩
    · obtain ⟨t2, a1, b1⟩ := k r M1 hK T'.heap (locs ++ L') ls (by rw [e1]; exact hR) (keep h0 e1 hF hL) h4 T' rfl X'
      refine ⟨t2, st t2 ?_, b1⟩
      have ev : (if ret2.isSome = true then some (Value.int r) else none).toList ++ S.map (va g) = (resv ret2.isSome r ++ S).map (va g) := by
        cases ret2.isSome <;> rfl
      cases hv
      show Steps _ _ _ (T'.setTop { F0 x.2.2.2.2.2.1 pc ls st0 with pc := pc + 3, stack := _ }) _
      rw [ev]
      exact a1
    · exact absurd rfl hn
  · rcases hr _ hf T hT X with ⟨v, st₀, t, T', L', h0, X', hL, e1, e2, ⟨hn, -⟩, st⟩ | ⟨q, st₀, t, T', L', E, ce, h0, X', hL, e1, e2, ⟨-, hE, hR, hF⟩, hce, hcv, hcl, st⟩
    · exact absurd hn hne
    · obtain ⟨rfl, -, hx⟩ := R
      have hS := keep h0 e1 hF hL
      obtain ⟨t2, a1, b1⟩ := vx_out (p := x.1) (l := x.2.1) (e := x.2.2.1) (R := x.2.2.2.1) (s := x.2.2.2.2.1) (m := x.2.2.2.2.2.1) (args := x.2.2.2.2.2.2.1) (below := x.2.2.2.2.2.2.2.1) (meth := x.2.2.2.2.2.2.2.2.1) (c := x.2.2.2.2.2.2.2.2.2) (H := T'.heap) (locs := locs ++ L') (cells := kc + m2) (slots := ks + s2) (free := Ag g) (ls := ls) (rest := S.map (va g)) (Qc := Q1 g ret.isSome y out) (XC := X1 g y out) (pc := pc) (E := E) (ce := ce) (q := q) (mc := mc) (ms := ms)
        (fun z hz => (hx z hz).elim) C.2.2.2.2.1 (by rw [e1]; exact hce) hcv hcl (fun t9 ht9 _ => ⟨hne, hE, by rw [ht9, e1]; exact hR, hS.F ht9⟩) (fun z hz => hS.2.2 z hz) (Nat.le_of_ble_eq_true hkc) (Nat.le_of_ble_eq_true hks) T' rfl X'
      exact ⟨t2, st.trans a1, b1⟩
theorem g_callV1 (C : CX g x own cc nL d mc ms) (T : dck cc tb = true) {idx ci b n maxL d2 m2 s2 : Nat} {yn : MethodName} {c2 : ByteArray} {ret ret2 : Option FieldType} {out : Nat × Int32 × Mem} {f : Option (Nat × Int32 × Mem)} {K : Int32 → Mem → Option (Nat × Int32 × Mem)} (R : RT1 g x Q ret mc ms y out) (av : List Value) (hi : tb[i]? = some (pc, .invokevirtual idx, 3)) (hW : MW yn c2 maxL ret2 n) (hV : MV ci yn) (hl : Cond.methodLink own idx yn ∈ lw_tbl) (hk : kd y b = (0, ci)) (hd : Nat.ble (d2 + 1) d = true) (hm : Nat.ble maxL 80 = true) (hn : av.length = n) (hS8 : Nat.ble ((S.map fun v => v.category).sum) 8 = true)
    (hc : C1 g x.2.1 yn c2 maxL ret2 d2 m2 s2 y (.ref b :: av) M f) (h : cx f K = some out) (hkc : Nat.ble (kc + m2) mc = true) (hks : Nat.ble (ks + s2) ms = true) {S' : List Value} (hst : av.reverse ++ .ref b :: S = S') (k : ∀ r M1, K r M1 = some out → GG g x nL Q (kc + m2) (ks + s2) y M1 (pc + 3) L (resv ret2.isSome r ++ S)) : GG g x nL Q kc ks y M pc L S' := by
  intro H locs ls h1 h2 h4
  subst hst
  have hcw : CallW x.2.2.2.1 x.2.2.2.2.1 x.2.2.2.2.2.2.1 own yn.cls idx yn c2 maxL ret2 [Cond.code yn c2 maxL ret2] (rmD d2 m2 s2) m2 s2 n := ⟨callB0 C hW hl hd hm, C.word hV.1 rfl, C.word hV.2.1 rfl⟩
  have hR : RLE x.2.2.2.1 d mc ms := C.2.2.2.2.2.1
  have hR1 := hR.1
  have hR2 := hR.2.1
  refine after1 C R hkc hks h2 h4 (fun o2 hf => vx_runV ⟨C.1, C.2.1, C.2.2.1, C.2.2.2.1, fun w (hw : w ∈ ([] : List Cond)) => absurd hw List.not_mem_nil⟩ (hc o2 hf) hcw (preV0 C h1 h2 hk hV) rfl ?_ h4.1.1 ?_ ?_ (dcg T hi) ?_) h k
  · rw [List.length_map]; exact hn
  · show List.map (va g) (av.reverse ++ .ref b :: S) = (av.map (va g)).reverse ++ .ref (ad g b) :: S.map (va g)
    rw [List.map_append, List.map_reverse]; rfl
  · show 2 * 0 + _ ≤ 8
    have := Nat.le_of_ble_eq_true hS8
    rw [List.map_map]
    have e : (fun v => Value.category v) ∘ va g = fun v => v.category := by funext v; exact va_cat v
    rw [e]; omega
  · exact ⟨by rw [hR.2.2.1]; exact Nat.le_of_ble_eq_true hkc, by rw [hR.2.2.2]; exact Nat.le_of_ble_eq_true hks⟩
/-- a word of a throw: good, or castable -/
def gw2 (w : Cond) : Bool := goodWord w || (match w with | .castable _ _ => true | .declares _ => true | _ => false)
theorem CX.word2 (C : CX g x own cc nL d mc ms) {w : Cond} (hw : w ∈ lw_tbl) (hg : gw2 w = true) : w.before x.2.2.2.2.2.2.1 x.2.2.2.2.1 = true := by
  unfold gw2 at hg
  rw [Bool.or_eq_true] at hg
  rcases hg with hg | hg
  · exact C.word hw hg
  · cases w <;> first | (simp at hg; done) | skip
    · rename_i m0
      have h0 := C.2.2.2.2.2.2.1.1 _ hw
      have h1 : (Cond.declares m0).before #[Value.ref g.2.2.2.2.1] (g.1.setVm x.2.2.2.2.1.vm) = true := Cond.before_shiftedFace (State.Shifted.of_warmed C.2.2.2.2.2.2.2.1) _ rfl h0
      exact va_tabs (A := #[Value.ref g.2.2.2.2.1]) rfl rfl h1
    · rename_i a b
      have h0 := C.2.2.2.2.2.2.1.1 _ hw
      have h1 : (Cond.castable a b).before #[Value.ref g.2.2.2.2.1] (g.1.setVm x.2.2.2.2.1.vm) = true := by
        rw [Cond.castable_setVm (C.2.2.2.2.2.2.2.1).alike]; exact h0
      exact va_tabs (A := #[Value.ref g.2.2.2.2.1]) rfl rfl h1
/-- the words of 'throw new E()' -/
def TW (own : String) (ik ic : Nat) (cls : String) (names : List String) : Prop := (∀ w ∈ Cond.classLink own ik cls :: Cond.initialized cls :: vx_at0 own ic cls names, w ∈ lw_tbl) ∧ (∀ w ∈ Cond.classLink own ik cls :: Cond.initialized cls :: vx_at0 own ic cls names, gw2 w = true ∧ vx_ot w = true) ∧ Bundle.fit cls = true ∧ (∀ n ∈ names, Bundle.fit n = true) ∧ Nat.ble names.length 4 = true
theorem g_throw (C : CX g x own cc nL d mc ms) (T : dck cc tb = true) {T2 : Tb} {i0 i1 i2 i3 ik ic e : Nat} {r : Int32} {names : List String} {ret : Option FieldType} (R : RT1 g x Q ret mc ms y (e + 1, r, M)) (hw : TW own ik ic (exNm (e + 1)) names)
    (d0 : tb[i0]? = some (pc, .new ik, 3)) (d3 : tb[i1]? = some (pc + 3, .dup, 1)) (d4 : tb[i2]? = some (pc + 4, .invokespecial ic, 3)) (d7 : tb[i3]? = some (pc + 7, .athrow, 1)) (hS8 : Nat.ble ((S.map fun v => v.category).sum) 8 = true) (hkc : Nat.ble (kc + 1) mc = true) (hks : Nat.ble (ks + 6) ms = true) : GG g x nL Q kc ks y M pc L S := by
  intro H locs ls h1 h2 h4
  obtain ⟨rfl, hr, hx⟩ := R
  have hR : RLE x.2.2.2.1 d mc ms := C.2.2.2.2.2.1
  have hR1 := hR.1
  have hR2 := hR.2.1
  have G := C.2.2.2.2.2.2.1
  have hl : x.2.1.stackTraces = false := by
    have h := G.2.2.1
    simp only [Launch.stackTraces, h]
    decide
  have bw : ∀ w ∈ Cond.classLink own ik (exNm (e + 1)) :: Cond.initialized (exNm (e + 1)) :: vx_at0 own ic (exNm (e + 1)) names, w.before x.2.2.2.2.2.2.1 x.2.2.2.2.1 = true := fun w h => C.word2 (hw.1 w h) (hw.2.1 w h).1
  have low : ∀ q : Nat, q < g.1.heap.size → ¬ Ag g q → x.2.2.2.2.1.heap[q]? = g.1.heap[q]? := fun q h1 h2 => C.2.2.2.2.2.2.2.2.2 q h1
  have hcat : (List.map (fun v => Value.category v) (S.map (va g))).sum ≤ 8 := by
    have := Nat.le_of_ble_eq_true hS8
    rw [List.map_map]
    have e : (fun v => Value.category v) ∘ va g = fun v => v.category := by funext v; exact va_cat v
    rw [e]; exact this
  have hnl := Nat.le_of_ble_eq_true hw.2.2.2.2
  have hkc' := Nat.le_of_ble_eq_true hkc
  have hks' := Nat.le_of_ble_eq_true hks
  exact vx_throw0 C.1 C.2.1 hl C.2.2.2.1 hw.2.2.1 hw.2.2.2.1 (bw _ List.mem_cons_self) (bw _ (List.mem_cons_of_mem _ List.mem_cons_self)) (fun w h => bw w (List.mem_cons_of_mem _ (List.mem_cons_of_mem _ h))) (fun w h => (hw.2.1 w h).2)
    ((G.2.2.2.2.1.1.moved (C.2.2.2.2.2.2.2.1).alike).kept low) ((G.2.2.2.2.1.2.moved (C.2.2.2.2.2.2.2.1).alike).kept low) h2 (h4.1.1.trans C.2.2.1.symm) (dcg T d0) (dcg T d3) (dcg T d4) (dcg T d7) (fun z hz => (hx z hz).elim)
    (by omega) (by omega) (by rw [hR.2.2.1]; exact hkc') (by rw [hR.2.2.2]; exact hks') C.2.2.2.2.1
    (fun t ha hz hk => ⟨Nat.succ_ne_zero _, rfl, h1.mono hk, Nat.le_trans h2.1 hz, fun q h5 h6 => by rw [hk q (Nat.lt_of_lt_of_le h5 h2.1)]; exact h2.2.1 q h5 h6⟩) (fun z hz => h2.2.2 z hz) hkc' hks'
-- Math
theorem cat_le (hS8 : Nat.ble ((S.map fun v => v.category).sum) 8 = true) : (List.map (fun v => Value.category v) (S.map (va g))).sum ≤ 8 := by
  have := Nat.le_of_ble_eq_true hS8
  rw [List.map_map]
  have e : (fun v => Value.category v) ∘ va g = fun v => v.category := by funext v; exact va_cat v
  rw [e]; exact this
theorem g_min (C : CX g x own cc nL d mc ms) (T : dck cc tb = true) {idx : Nat} {a b : Int32} (hi : tb[i]? = some (pc, .invokestatic idx, 3)) (hw : ∀ w ∈ [Cond.methodLink own idx Lib.Math.min.name, Cond.static Lib.Math.min.name, Cond.initialized "java/lang/Math", Cond.code Lib.Math.min.name Lib.Math.min.code 2 (some .int)], w ∈ lw_tbl) (hS8 : Nat.ble ((S.map fun v => v.category).sum) 8 = true) (hkc : Nat.ble kc mc = true) (hks : Nat.ble ks ms = true) (k : GG g x nL Q kc ks y M (pc + 3) L (.int (jmin a b) :: S)) : GG g x nL Q kc ks y M pc L (.int b :: .int a :: S) := by
  intro H locs ls h1 h2 h4
  have hR : RLE x.2.2.2.1 d mc ms := C.2.2.2.2.2.1
  have hR1 := hR.1
  have hR2 := hR.2.1
  have hcat := cat_le (g := g) hS8
  have k1 := Nat.le_of_ble_eq_true hkc
  have k2 := Nat.le_of_ble_eq_true hks
  exact va_mmin C.1 C.2.1 (by rw [h4.1.1]; exact C.2.2.1) C.2.2.2.1 (C.word (hw _ (by simp)) rfl) (C.word (hw _ (by simp)) rfl) (C.word (hw _ (by simp)) rfl) (C.word (hw _ (by simp)) rfl) (by omega) (by omega) (by rw [hR.2.2.1]; exact k1) (by rw [hR.2.2.2]; exact k2) (dcg T hi) (k H locs ls h1 h2 h4)
theorem g_max (C : CX g x own cc nL d mc ms) (T : dck cc tb = true) {idx : Nat} {a b : Int32} (hi : tb[i]? = some (pc, .invokestatic idx, 3)) (hw : ∀ w ∈ [Cond.methodLink own idx Lib.Math.max.name, Cond.static Lib.Math.max.name, Cond.initialized "java/lang/Math", Cond.code Lib.Math.max.name Lib.Math.max.code 2 (some .int)], w ∈ lw_tbl) (hS8 : Nat.ble ((S.map fun v => v.category).sum) 8 = true) (hkc : Nat.ble kc mc = true) (hks : Nat.ble ks ms = true) (k : GG g x nL Q kc ks y M (pc + 3) L (.int (jmax a b) :: S)) : GG g x nL Q kc ks y M pc L (.int b :: .int a :: S) := by
  intro H locs ls h1 h2 h4
  have hR : RLE x.2.2.2.1 d mc ms := C.2.2.2.2.2.1
  have hR1 := hR.1
  have hR2 := hR.2.1
  have hcat := cat_le (g := g) hS8
  have k1 := Nat.le_of_ble_eq_true hkc
  have k2 := Nat.le_of_ble_eq_true hks
  exact va_mmax C.1 C.2.1 (by rw [h4.1.1]; exact C.2.2.1) C.2.2.2.1 (C.word (hw _ (by simp)) rfl) (C.word (hw _ (by simp)) rfl) (C.word (hw _ (by simp)) rfl) (C.word (hw _ (by simp)) rfl) (by omega) (by omega) (by rw [hR.2.2.1]; exact k1) (by rw [hR.2.2.2]; exact k2) (dcg T hi) (k H locs ls h1 h2 h4)
theorem g_abs (C : CX g x own cc nL d mc ms) (T : dck cc tb = true) {idx : Nat} {a : Int32} (hi : tb[i]? = some (pc, .invokestatic idx, 3)) (hw : ∀ w ∈ [Cond.methodLink own idx Lib.Math.abs.name, Cond.static Lib.Math.abs.name, Cond.initialized "java/lang/Math", Cond.code Lib.Math.abs.name Lib.Math.abs.code 1 (some .int)], w ∈ lw_tbl) (hS8 : Nat.ble ((S.map fun v => v.category).sum) 8 = true) (hkc : Nat.ble kc mc = true) (hks : Nat.ble ks ms = true) (k : GG g x nL Q kc ks y M (pc + 3) L (.int (jabs a) :: S)) : GG g x nL Q kc ks y M pc L (.int a :: S) := by
  intro H locs ls h1 h2 h4
  have hR : RLE x.2.2.2.1 d mc ms := C.2.2.2.2.2.1
  have hR1 := hR.1
  have hR2 := hR.2.1
  have hcat := cat_le (g := g) hS8
  have k1 := Nat.le_of_ble_eq_true hkc
  have k2 := Nat.le_of_ble_eq_true hks
  exact va_mabs C.1 C.2.1 (by rw [h4.1.1]; exact C.2.2.1) C.2.2.2.1 (C.word (hw _ (by simp)) rfl) (C.word (hw _ (by simp)) rfl) (C.word (hw _ (by simp)) rfl) (C.word (hw _ (by simp)) rfl) (by omega) (by omega) (by rw [hR.2.2.1]; exact k1) (by rw [hR.2.2.2]; exact k2) (dcg T hi) (k H locs ls h1 h2 h4)
theorem g_copy (C : CX g x own cc nL d mc ms) (T : dck cc tb = true) {idx a b : Nat} {sp dp n : Int32} (hi : tb[i]? = some (pc, .invokestatic idx, 3)) (hw : ∀ w ∈ [Cond.methodLink own idx arraycopyName, Cond.native arraycopyName, Cond.static arraycopyName, Cond.initialized "java/lang/System"], w ∈ lw_tbl) (hS8 : Nat.ble ((S.map fun v => v.category).sum) 8 = true)
    (hk : ((kd y a).1 = 1 ∧ (kd y b).1 = 1) ∧ (¬ sp < 0 ∧ ¬ dp < 0 ∧ ¬ n < 0) ∧ sp.toNatClampNeg + n.toNatClampNeg ≤ (kd y a).2 ∧ dp.toNatClampNeg + n.toNatClampNeg ≤ (kd y b).2) (k : GG g x nL Q kc ks y (cpI M a b sp.toNatClampNeg dp.toNatClampNeg n.toNatClampNeg) (pc + 3) L S) : GG g x nL Q kc ks y M pc L (.int n :: .int dp :: .ref b :: .int sp :: .ref a :: S) := by
  intro H locs ls h1 h2 h4
  have hR : RLE x.2.2.2.1 d mc ms := C.2.2.2.2.2.1
  have hR1 := hR.1
  have hR2 := hR.2.1
  have hcat := cat_le (g := g) hS8
  obtain ⟨⟨ka, kb⟩, ⟨n1, n2, n3⟩, l1, l2⟩ := hk
  have ha := wld_get (g := g) (M := M) (r := a) (c := kd y a) rfl (by rw [ka]; decide) h1.2
  have hb := wld_get (g := g) (M := M) (r := b) (c := kd y b) rfl (by rw [kb]; decide) h1.2
  have hws : (wld g y M).set (b - 1) (ad g b, .inl (g.2.2.1 0, (kd y b).2, .inl (va_cpy (M.1 a) (M.1 b) sp.toNatClampNeg dp.toNatClampNeg n.toNatClampNeg))) = wld g y (cpI M a b sp.toNatClampNeg dp.toNatClampNeg n.toNatClampNeg) :=
    wld_set (c := kd y b) rfl (by rw [kb]; decide) h1.2 (by unfold entK; rw [if_neg (by rw [kb]; decide), if_pos kb]; show Sum.inl (_, _, Sum.inl ((cpI M a b _ _ _).1 b)) = _; unfold cpI; simp only [if_true]) ent_cp
  unfold entK at ha hb
  rw [if_neg (by rw [ka]; decide), if_pos ka] at ha
  rw [if_neg (by rw [kb]; decide), if_pos kb] at hb
  have e9 : nativeFrameWords "java/lang/System" "arraycopy" 5 ≤ 200 := by decide
  have hnl : (List.map (fun v => Value.category v) (S.map (va g))).sum + (nativeFrameWords "java/lang/System" "arraycopy" 5 + 11) ≤ x.2.2.2.1.locals := by omega
  refine va_copyi C.1 C.2.1 (by rw [h4.1.1]; exact C.2.2.1) C.2.2.2.1 (C.word (hw _ (by simp)) rfl) (C.word (hw _ (by simp)) rfl) (C.word (hw _ (by simp)) rfl) (C.word (hw _ (by simp)) rfl) C.K h1.1 wld_D h2 (a - 1) (b - 1) 0 0 ha hb rfl rfl rfl n1 n2 n3 l1 l2 (fun _ _ => rfl) (by omega) hnl (dcg T hi) (fun H1 locs1 p1 p2 p3 => k H1 locs1 ls ⟨by rw [← hws]; exact p1, h1.2⟩ p3 h4)
end GR5
end
section
/-! ===== loops, small helps ===== -/
def FUEL : Nat := 100000
theorem nn_e {β : Type} {o : β} (h : (none : Option β) = some o) : False := by cases h
theorem fix_i {κ : Type} {bot : κ} {F : κ → κ} {P : κ → Prop} (h0 : P bot) (hs : ∀ f, P f → P (F f)) (n : Nat) : P (fixN bot F n) := by
  induction n with
  | zero => exact h0
  | succ n ih => exact hs _ ih
theorem i32_ne {a : Int32} (l : List Int32) {n : Nat} (hn : l.length = n) (h : ∀ c ∈ l, ¬ a = c) : ∀ j, j < n → ¬ a = l.getD j 0 := by
  intro j hj
  subst hn
  refine h _ ?_
  rw [List.getD_eq_getElem?_getD, List.getElem?_eq_getElem hj]
  exact List.getElem_mem hj
/-- the last of a switch's values -/
theorem i32_sw {a lo hi : Int32} {n : Nat} {l : List Int32} (h : ¬ (a < lo ∨ hi < a)) (hh : (decide (hi.toInt = lo.toInt + n) && decide (l.length = n) && (List.range n).all (fun j => decide ((l.getD j 0).toInt = lo.toInt + j))) = true) (hj : ∀ j, j < n → ¬ a = l.getD j 0) : a = hi := by
  simp only [Bool.and_eq_true, decide_eq_true_eq, List.all_eq_true, List.mem_range] at hh
  obtain ⟨⟨h1, h2⟩, h3⟩ := hh
  have ha : ¬ a.toInt < lo.toInt ∧ ¬ hi.toInt < a.toInt := ⟨fun q => h (Or.inl (Int32.lt_iff_toInt_lt.mpr q)), fun q => h (Or.inr (Int32.lt_iff_toInt_lt.mpr q))⟩
  apply Int32.toInt_inj.mp
  by_cases e : a.toInt = hi.toInt
  · exact e
  · exfalso
    have hk : (a.toInt - lo.toInt).toNat < n := by omega
    have := h3 _ hk
    exact hj _ hk (Int32.toInt_inj.mp (by rw [this]; omega))
theorem lk_df {d v : Int} : ∀ {ps : List (Int × Int)}, (∀ p ∈ ps, ¬ p.1 = v) → Op.lookupswitch.offset ps d v = d := by
  intro ps
  induction ps with
  | nil => intro h; rfl
  | cons a ps ih =>
    intro h
    obtain ⟨a1, a2⟩ := a
    have h1 : ¬ a1 = v := h (a1, a2) List.mem_cons_self
    rw [Op.lookupswitch.offset_cons, if_neg h1]
    exact ih (fun p hp => h p (List.mem_cons_of_mem _ hp))
section GR6
variable {g : GX} {x : KX} {own : String} {cc : ByteArray} {nL d mc ms : Nat} {Q : State → Prop} {kc ks : Nat} {y : Lay} {M : Mem} {pc i : Nat} {L : List (Option Value)} {S : List Value} {tb : Tb}
theorem g_iincv (C : CX g x own cc nL d mc ms) (T : dck cc tb = true) {j : Nat} {n : Int} {v w : Int32} (e : Int32) (hw : w = v + e) (hi : tb[i]? = some (pc, .iinc j n, 3)) (hl : L[j]? = some (some (.int v))) (he : Int32.ofInt n = e) (hj : Nat.ble (j + 1) nL = true) (hn : nlo L j = true) (k : GG g x nL Q kc ks y M (pc + 3) (L.set j (some (.int w))) S) : GG g x nL Q kc ks y M pc L S := by
  subst hw
  exact g_iinc C T e hi hl he hj hn k
theorem CX.low (C : CX g x own cc nL d mc ms) : ∀ q : Nat, q < g.1.heap.size → ¬ Ag g q → x.2.2.2.2.1.heap[q]? = g.1.heap[q]? := fun q h1 _ => C.2.2.2.2.2.2.2.2.2 q h1
theorem g_ldcIw (C : CX g x own cc nL d mc ms) (T : dck cc tb = true) {idx : Nat} {v : Int32} (hi : tb[i]? = some (pc, .ldc_w idx, 3)) (hw : Cond.constant own idx v ∈ lw_tbl) (k : GG g x nL Q kc ks y M (pc + 3) L (.int v :: S)) : GG g x nL Q kc ks y M pc L S :=
  fun H locs ls h1 h2 h4 => lv_ldcw C.1 C.2.1 C.2.2.2.1 (C.word hw rfl) (dcg T hi) (k H locs ls h1 h2 h4)
/-- a String constant: how long, and its signs -/
theorem SF.adK {k : Nat} (hk : k < nStr) : ad g (1000 + k) = g.2.2.2.1 k := by
  have hk' : k < 37 := hk
  unfold ad
  rw [if_neg (by omega), if_neg (by omega), show 1000 + k - 1000 = k by omega]
theorem g_ldcS (C : CX g x own cc nL d mc ms) (T : dck cc tb = true) {idx k v : Nat} (hi : tb[i]? = some (pc, .ldc idx, 2)) (h1 : strOwn k = own) (h2 : strIdx k = idx) (hk : k < nStr) (hv : v = 1000 + k) (kk : GG g x nL Q kc ks y M (pc + 2) L (.ref v :: S)) : GG g x nL Q kc ks y M pc L S := by
  subst hv
  intro H locs ls a b c
  have hs := (C.2.2.2.2.2.2.1.2.2.2.1.1 k hk).2.2.2.2
  rw [h1, h2] at hs
  have hs := vk_R.warm C.2.2.2.2.2.2.2.1 hs
  have kk' := kk H locs ls a b c
  have e : (Value.ref (1000 + k) :: S).map (va g) = .ref (g.2.2.2.1 k) :: S.map (va g) := by
    show Value.ref (ad g (1000 + k)) :: _ = _
    rw [SF.adK hk]
  rw [e] at kk'
  exact va_ldcS C.1 C.2.1 C.2.2.2.1 hs (dcg T hi) kk'
theorem g_ldcSw (C : CX g x own cc nL d mc ms) (T : dck cc tb = true) {idx k v : Nat} (hi : tb[i]? = some (pc, .ldc_w idx, 3)) (h1 : strOwn k = own) (h2 : strIdx k = idx) (hk : k < nStr) (hv : v = 1000 + k) (kk : GG g x nL Q kc ks y M (pc + 3) L (.ref v :: S)) : GG g x nL Q kc ks y M pc L S := by
  subst hv
  intro H locs ls a b c
  have hs := (C.2.2.2.2.2.2.1.2.2.2.1.1 k hk).2.2.2.2
  rw [h1, h2] at hs
  have hs := vk_R.warm C.2.2.2.2.2.2.2.1 hs
  have kk' := kk H locs ls a b c
  have e : (Value.ref (1000 + k) :: S).map (va g) = .ref (g.2.2.2.1 k) :: S.map (va g) := by
    show Value.ref (ad g (1000 + k)) :: _ = _
    rw [SF.adK hk]
  rw [e] at kk'
  have hdg : decode x.2.2.2.2.2.2.2.2.2.code pc = .ok (.ldc_w idx, 3) := by rw [C.2.1]; exact dcg T hi
  intro Tt hT X
  obtain ⟨t, a1, b1⟩ := kk' Tt hT X
  refine ⟨t, ?_, b1⟩
  obtain ⟨q1, q2, q3, q4, q5, q6, q7, -, q8, q9⟩ := Cond.stringRef_spec C.2.2.2.1 hs.1
  cases hs.2.symm.trans q9
  obtain ⟨z1, z2, z3⟩ := X.warmed.alike.2.2 _ _ q5
  have z4 : z1.resolved[idx]? = some (some (.string (g.2.2.2.1 k))) := by
    rcases X.warmed.entry q5 z2 idx with h | ⟨h, -⟩
    · rw [h]; exact q8
    · rw [q8] at h; cases h
  jvm_step X.here [C.1, hdg, ldc_w.wp_string (s := Tt) (f := F0 x.2.2.2.2.2.1 pc ls (S.map (va g))) X.here.top z2 (by rw [z3]; exact q6) q7 z4]
  exact a1
end GR6
theorem CP_of {g : GX} {l : Launch} {yn : MethodName} {cc : ByteArray} {maxL : Nat} {ret : Option FieldType} {d : Nat} {y : Lay} {av : List Value} {M : Mem} {f : Option Int32} (hG : GF g l) (hy : plainName yn.cls = true) (L0 : List (Option Value)) (hL : argL av ++ List.replicate (maxL - (argL av).length) none = L0) (hn : Nat.ble (argL av).length maxL = true)
    (body : ∀ out, f = some out → ∀ (x : KX) (Q : State → Prop), CX g x yn.cls cc maxL d 0 0 → RT0 g x Q ret y (out, M) → GG g x maxL Q 0 0 y M 0 L0 []) : C0 g l yn cc maxL ret d y av M (pm M f) := by
  refine C0_of hG hy L0 hL hn (fun out h x Q C R => ?_)
  obtain ⟨r, h1, h2⟩ := pm_e h
  subst h2
  exact body r h1 x Q C R
theorem CX.G {g : GX} {x : KX} {own : String} {cc : ByteArray} {nL d mc ms : Nat} (C : CX g x own cc nL d mc ms) : GF g x.2.1 := C.2.2.2.2.2.2.1
end
