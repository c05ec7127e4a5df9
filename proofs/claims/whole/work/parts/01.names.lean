-- ===== PART A: goes FIRST, ahead of the names: the tables' words, and 'selects' of the private methods out of them =====
/-- a private method of a class that the tables say can be made, by its rows of tables_1 -/
def lw_okq (q : MethodName × Nat) : Prop := (q.1.cls ≠ "java/lang/invoke/MethodHandle" ∧ q.1.cls ≠ "java/lang/invoke/VarHandle") ∧ Cond.instantiable q.1.cls q.2 ∈ tables_1 ∧ Cond.privateMethod q.1 ∈ tables_1 ∧ Cond.instanceMethod q.1 ∈ tables_1
theorem lw_p0 : lw_okq (⟨"KnockLane$Tape", "takeRun", "()V"⟩, 11) := ⟨⟨by decide +kernel, by decide +kernel⟩, List.mem_of_getElem? (i := 34) (by decide +kernel), List.mem_of_getElem? (i := 541) (by decide +kernel), List.mem_of_getElem? (i := 542) (by decide +kernel)⟩
theorem lw_p1 : lw_okq (⟨"KnockLane$Tape", "nameWord", "()V"⟩, 11) := ⟨⟨by decide +kernel, by decide +kernel⟩, List.mem_of_getElem? (i := 34) (by decide +kernel), List.mem_of_getElem? (i := 545) (by decide +kernel), List.mem_of_getElem? (i := 546) (by decide +kernel)⟩
theorem lw_p2 : lw_okq (⟨"KnockLane$QuarterReader", "readLine", "()Z"⟩, 6) := ⟨⟨by decide +kernel, by decide +kernel⟩, List.mem_of_getElem? (i := 335) (by decide +kernel), List.mem_of_getElem? (i := 553) (by decide +kernel), List.mem_of_getElem? (i := 554) (by decide +kernel)⟩
theorem lw_p3 : lw_okq (⟨"KnockLane$QuarterReader", "refuse", "(I)Z"⟩, 6) := ⟨⟨by decide +kernel, by decide +kernel⟩, List.mem_of_getElem? (i := 335) (by decide +kernel), List.mem_of_getElem? (i := 557) (by decide +kernel), List.mem_of_getElem? (i := 558) (by decide +kernel)⟩
theorem lw_p4 : lw_okq (⟨"KnockLane$QuarterReader", "readLane", "()Z"⟩, 6) := ⟨⟨by decide +kernel, by decide +kernel⟩, List.mem_of_getElem? (i := 335) (by decide +kernel), List.mem_of_getElem? (i := 565) (by decide +kernel), List.mem_of_getElem? (i := 566) (by decide +kernel)⟩
theorem lw_p5 : lw_okq (⟨"KnockLane$QuarterReader", "readHouse", "()Z"⟩, 6) := ⟨⟨by decide +kernel, by decide +kernel⟩, List.mem_of_getElem? (i := 335) (by decide +kernel), List.mem_of_getElem? (i := 574) (by decide +kernel), List.mem_of_getElem? (i := 575) (by decide +kernel)⟩
theorem lw_p6 : lw_okq (⟨"KnockLane$QuarterReader", "readPerson", "()Z"⟩, 6) := ⟨⟨by decide +kernel, by decide +kernel⟩, List.mem_of_getElem? (i := 335) (by decide +kernel), List.mem_of_getElem? (i := 594) (by decide +kernel), List.mem_of_getElem? (i := 595) (by decide +kernel)⟩
theorem lw_p7 : lw_okq (⟨"KnockLane$Scene", "makeKnown", "(II)V"⟩, 15) := ⟨⟨by decide +kernel, by decide +kernel⟩, List.mem_of_getElem? (i := 206) (by decide +kernel), List.mem_of_getElem? (i := 636) (by decide +kernel), List.mem_of_getElem? (i := 637) (by decide +kernel)⟩
theorem lw_p8 : lw_okq (⟨"KnockLane$QuarterReader", "readKnows", "()Z"⟩, 6) := ⟨⟨by decide +kernel, by decide +kernel⟩, List.mem_of_getElem? (i := 335) (by decide +kernel), List.mem_of_getElem? (i := 643) (by decide +kernel), List.mem_of_getElem? (i := 644) (by decide +kernel)⟩
theorem lw_p9 : lw_okq (⟨"KnockLane$QuarterReader", "readCalls", "()Z"⟩, 6) := ⟨⟨by decide +kernel, by decide +kernel⟩, List.mem_of_getElem? (i := 335) (by decide +kernel), List.mem_of_getElem? (i := 663) (by decide +kernel), List.mem_of_getElem? (i := 664) (by decide +kernel)⟩
theorem lw_p10 : lw_okq (⟨"KnockLane$QuarterReader", "readEar", "()Z"⟩, 6) := ⟨⟨by decide +kernel, by decide +kernel⟩, List.mem_of_getElem? (i := 335) (by decide +kernel), List.mem_of_getElem? (i := 681) (by decide +kernel), List.mem_of_getElem? (i := 682) (by decide +kernel)⟩
theorem lw_p11 : lw_okq (⟨"KnockLane$QuarterReader", "readStay", "()Z"⟩, 6) := ⟨⟨by decide +kernel, by decide +kernel⟩, List.mem_of_getElem? (i := 335) (by decide +kernel), List.mem_of_getElem? (i := 685) (by decide +kernel), List.mem_of_getElem? (i := 686) (by decide +kernel)⟩
theorem lw_p12 : lw_okq (⟨"KnockLane", "finishReading", "()V"⟩, 15) := ⟨⟨by decide +kernel, by decide +kernel⟩, List.mem_of_getElem? (i := 26) (by decide +kernel), List.mem_of_getElem? (i := 697) (by decide +kernel), List.mem_of_getElem? (i := 698) (by decide +kernel)⟩
theorem lw_p13 : lw_okq (⟨"KnockLane$Past", "roomBehind", "(I)LKnockLane$Scene;"⟩, 3) := ⟨⟨by decide +kernel, by decide +kernel⟩, List.mem_of_getElem? (i := 314) (by decide +kernel), List.mem_of_getElem? (i := 781) (by decide +kernel), List.mem_of_getElem? (i := 782) (by decide +kernel)⟩
theorem lw_p14 : lw_okq (⟨"KnockLane$Past", "keep", "()V"⟩, 3) := ⟨⟨by decide +kernel, by decide +kernel⟩, List.mem_of_getElem? (i := 314) (by decide +kernel), List.mem_of_getElem? (i := 795) (by decide +kernel), List.mem_of_getElem? (i := 796) (by decide +kernel)⟩
theorem lw_p15 : lw_okq (⟨"KnockLane$Scene", "putInLane", "(I)V"⟩, 15) := ⟨⟨by decide +kernel, by decide +kernel⟩, List.mem_of_getElem? (i := 206) (by decide +kernel), List.mem_of_getElem? (i := 815) (by decide +kernel), List.mem_of_getElem? (i := 816) (by decide +kernel)⟩
def lw_privs_1 : List (MethodName × Nat) := [(⟨"KnockLane$Tape", "takeRun", "()V"⟩, 11), (⟨"KnockLane$Tape", "nameWord", "()V"⟩, 11), (⟨"KnockLane$QuarterReader", "readLine", "()Z"⟩, 6), (⟨"KnockLane$QuarterReader", "refuse", "(I)Z"⟩, 6), (⟨"KnockLane$QuarterReader", "readLane", "()Z"⟩, 6), (⟨"KnockLane$QuarterReader", "readHouse", "()Z"⟩, 6), (⟨"KnockLane$QuarterReader", "readPerson", "()Z"⟩, 6), (⟨"KnockLane$Scene", "makeKnown", "(II)V"⟩, 15), (⟨"KnockLane$QuarterReader", "readKnows", "()Z"⟩, 6), (⟨"KnockLane$QuarterReader", "readCalls", "()Z"⟩, 6), (⟨"KnockLane$QuarterReader", "readEar", "()Z"⟩, 6), (⟨"KnockLane$QuarterReader", "readStay", "()Z"⟩, 6), (⟨"KnockLane", "finishReading", "()V"⟩, 15), (⟨"KnockLane$Past", "roomBehind", "(I)LKnockLane$Scene;"⟩, 3), (⟨"KnockLane$Past", "keep", "()V"⟩, 3), (⟨"KnockLane$Scene", "putInLane", "(I)V"⟩, 15)]
theorem lw_r1 : ∀ q ∈ lw_privs_1, lw_okq q := List.forall_mem_cons.mpr ⟨lw_p0, List.forall_mem_cons.mpr ⟨lw_p1, List.forall_mem_cons.mpr ⟨lw_p2, List.forall_mem_cons.mpr ⟨lw_p3, List.forall_mem_cons.mpr ⟨lw_p4, List.forall_mem_cons.mpr ⟨lw_p5, List.forall_mem_cons.mpr ⟨lw_p6, List.forall_mem_cons.mpr ⟨lw_p7, List.forall_mem_cons.mpr ⟨lw_p8, List.forall_mem_cons.mpr ⟨lw_p9, List.forall_mem_cons.mpr ⟨lw_p10, List.forall_mem_cons.mpr ⟨lw_p11, List.forall_mem_cons.mpr ⟨lw_p12, List.forall_mem_cons.mpr ⟨lw_p13, List.forall_mem_cons.mpr ⟨lw_p14, List.forall_mem_cons.mpr ⟨lw_p15, fun _ h => absurd h List.not_mem_nil⟩⟩⟩⟩⟩⟩⟩⟩⟩⟩⟩⟩⟩⟩⟩⟩
theorem lw_p16 : lw_okq (⟨"KnockLane$Scene", "stayOn", "(I)V"⟩, 15) := ⟨⟨by decide +kernel, by decide +kernel⟩, List.mem_of_getElem? (i := 206) (by decide +kernel), List.mem_of_getElem? (i := 844) (by decide +kernel), List.mem_of_getElem? (i := 845) (by decide +kernel)⟩
theorem lw_p17 : lw_okq (⟨"KnockLane$Scene", "walkOn", "(I)V"⟩, 15) := ⟨⟨by decide +kernel, by decide +kernel⟩, List.mem_of_getElem? (i := 206) (by decide +kernel), List.mem_of_getElem? (i := 848) (by decide +kernel), List.mem_of_getElem? (i := 849) (by decide +kernel)⟩
theorem lw_p18 : lw_okq (⟨"KnockLane$Scene", "callAtDoor", "(I)V"⟩, 15) := ⟨⟨by decide +kernel, by decide +kernel⟩, List.mem_of_getElem? (i := 206) (by decide +kernel), List.mem_of_getElem? (i := 852) (by decide +kernel), List.mem_of_getElem? (i := 853) (by decide +kernel)⟩
theorem lw_p19 : lw_okq (⟨"KnockLane$Scene", "dropCall", "(I)V"⟩, 15) := ⟨⟨by decide +kernel, by decide +kernel⟩, List.mem_of_getElem? (i := 206) (by decide +kernel), List.mem_of_getElem? (i := 856) (by decide +kernel), List.mem_of_getElem? (i := 857) (by decide +kernel)⟩
theorem lw_p20 : lw_okq (⟨"KnockLane$Scene", "openDoor", "(II)V"⟩, 15) := ⟨⟨by decide +kernel, by decide +kernel⟩, List.mem_of_getElem? (i := 206) (by decide +kernel), List.mem_of_getElem? (i := 871) (by decide +kernel), List.mem_of_getElem? (i := 872) (by decide +kernel)⟩
theorem lw_p21 : lw_okq (⟨"KnockLane$Matching", "canBeOpen", "(I)Z"⟩, 2) := ⟨⟨by decide +kernel, by decide +kernel⟩, List.mem_of_getElem? (i := 402) (by decide +kernel), List.mem_of_getElem? (i := 909) (by decide +kernel), List.mem_of_getElem? (i := 910) (by decide +kernel)⟩
theorem lw_p22 : lw_okq (⟨"KnockLane$Chain", "walk", "(LKnockLane$Scene;II)V"⟩, 3) := ⟨⟨by decide +kernel, by decide +kernel⟩, List.mem_of_getElem? (i := 416) (by decide +kernel), List.mem_of_getElem? (i := 942) (by decide +kernel), List.mem_of_getElem? (i := 943) (by decide +kernel)⟩
theorem lw_p23 : lw_okq (⟨"KnockLane", "whoByPairs", "()I"⟩, 15) := ⟨⟨by decide +kernel, by decide +kernel⟩, List.mem_of_getElem? (i := 26) (by decide +kernel), List.mem_of_getElem? (i := 962) (by decide +kernel), List.mem_of_getElem? (i := 963) (by decide +kernel)⟩
theorem lw_p24 : lw_okq (⟨"KnockLane$Label", "addWord", "(J)V"⟩, 3) := ⟨⟨by decide +kernel, by decide +kernel⟩, List.mem_of_getElem? (i := 432) (by decide +kernel), List.mem_of_getElem? (i := 1029) (by decide +kernel), List.mem_of_getElem? (i := 1030) (by decide +kernel)⟩
theorem lw_p25 : lw_okq (⟨"KnockLane$Label", "add", "(I)V"⟩, 3) := ⟨⟨by decide +kernel, by decide +kernel⟩, List.mem_of_getElem? (i := 432) (by decide +kernel), List.mem_of_getElem? (i := 1033) (by decide +kernel), List.mem_of_getElem? (i := 1034) (by decide +kernel)⟩
theorem lw_p26 : lw_okq (⟨"KnockLane$Label", "addText", "(Ljava/lang/String;)V"⟩, 3) := ⟨⟨by decide +kernel, by decide +kernel⟩, List.mem_of_getElem? (i := 432) (by decide +kernel), List.mem_of_getElem? (i := 1039) (by decide +kernel), List.mem_of_getElem? (i := 1040) (by decide +kernel)⟩
theorem lw_p27 : lw_okq (⟨"KnockLane$Label", "addDigits", "(I)V"⟩, 3) := ⟨⟨by decide +kernel, by decide +kernel⟩, List.mem_of_getElem? (i := 432) (by decide +kernel), List.mem_of_getElem? (i := 1049) (by decide +kernel), List.mem_of_getElem? (i := 1050) (by decide +kernel)⟩
theorem lw_p28 : lw_okq (⟨"KnockLane$Label", "addWay", "(I)V"⟩, 3) := ⟨⟨by decide +kernel, by decide +kernel⟩, List.mem_of_getElem? (i := 432) (by decide +kernel), List.mem_of_getElem? (i := 1054) (by decide +kernel), List.mem_of_getElem? (i := 1055) (by decide +kernel)⟩
theorem lw_p29 : lw_okq (⟨"KnockLane$Scene", "actByDraw", "(I)V"⟩, 15) := ⟨⟨by decide +kernel, by decide +kernel⟩, List.mem_of_getElem? (i := 206) (by decide +kernel), List.mem_of_getElem? (i := 1081) (by decide +kernel), List.mem_of_getElem? (i := 1082) (by decide +kernel)⟩
theorem lw_p30 : lw_okq (⟨"KnockLane$Scene", "draw", "(I)I"⟩, 15) := ⟨⟨by decide +kernel, by decide +kernel⟩, List.mem_of_getElem? (i := 206) (by decide +kernel), List.mem_of_getElem? (i := 1085) (by decide +kernel), List.mem_of_getElem? (i := 1086) (by decide +kernel)⟩
theorem lw_p31 : lw_okq (⟨"KnockLane$Book", "readLine", "()Z"⟩, 11) := ⟨⟨by decide +kernel, by decide +kernel⟩, List.mem_of_getElem? (i := 360) (by decide +kernel), List.mem_of_getElem? (i := 1108) (by decide +kernel), List.mem_of_getElem? (i := 1109) (by decide +kernel)⟩
def lw_privs_2 : List (MethodName × Nat) := [(⟨"KnockLane$Scene", "stayOn", "(I)V"⟩, 15), (⟨"KnockLane$Scene", "walkOn", "(I)V"⟩, 15), (⟨"KnockLane$Scene", "callAtDoor", "(I)V"⟩, 15), (⟨"KnockLane$Scene", "dropCall", "(I)V"⟩, 15), (⟨"KnockLane$Scene", "openDoor", "(II)V"⟩, 15), (⟨"KnockLane$Matching", "canBeOpen", "(I)Z"⟩, 2), (⟨"KnockLane$Chain", "walk", "(LKnockLane$Scene;II)V"⟩, 3), (⟨"KnockLane", "whoByPairs", "()I"⟩, 15), (⟨"KnockLane$Label", "addWord", "(J)V"⟩, 3), (⟨"KnockLane$Label", "add", "(I)V"⟩, 3), (⟨"KnockLane$Label", "addText", "(Ljava/lang/String;)V"⟩, 3), (⟨"KnockLane$Label", "addDigits", "(I)V"⟩, 3), (⟨"KnockLane$Label", "addWay", "(I)V"⟩, 3), (⟨"KnockLane$Scene", "actByDraw", "(I)V"⟩, 15), (⟨"KnockLane$Scene", "draw", "(I)I"⟩, 15), (⟨"KnockLane$Book", "readLine", "()Z"⟩, 11)]
theorem lw_r2 : ∀ q ∈ lw_privs_2, lw_okq q := List.forall_mem_cons.mpr ⟨lw_p16, List.forall_mem_cons.mpr ⟨lw_p17, List.forall_mem_cons.mpr ⟨lw_p18, List.forall_mem_cons.mpr ⟨lw_p19, List.forall_mem_cons.mpr ⟨lw_p20, List.forall_mem_cons.mpr ⟨lw_p21, List.forall_mem_cons.mpr ⟨lw_p22, List.forall_mem_cons.mpr ⟨lw_p23, List.forall_mem_cons.mpr ⟨lw_p24, List.forall_mem_cons.mpr ⟨lw_p25, List.forall_mem_cons.mpr ⟨lw_p26, List.forall_mem_cons.mpr ⟨lw_p27, List.forall_mem_cons.mpr ⟨lw_p28, List.forall_mem_cons.mpr ⟨lw_p29, List.forall_mem_cons.mpr ⟨lw_p30, List.forall_mem_cons.mpr ⟨lw_p31, fun _ h => absurd h List.not_mem_nil⟩⟩⟩⟩⟩⟩⟩⟩⟩⟩⟩⟩⟩⟩⟩⟩
theorem lw_p32 : lw_okq (⟨"KnockLane$Book", "readTicks", "()Z"⟩, 11) := ⟨⟨by decide +kernel, by decide +kernel⟩, List.mem_of_getElem? (i := 360) (by decide +kernel), List.mem_of_getElem? (i := 1115) (by decide +kernel), List.mem_of_getElem? (i := 1116) (by decide +kernel)⟩
theorem lw_p33 : lw_okq (⟨"KnockLane$Book", "add", "(III)V"⟩, 11) := ⟨⟨by decide +kernel, by decide +kernel⟩, List.mem_of_getElem? (i := 360) (by decide +kernel), List.mem_of_getElem? (i := 1120) (by decide +kernel), List.mem_of_getElem? (i := 1121) (by decide +kernel)⟩
theorem lw_p34 : lw_okq (⟨"KnockLane$Book", "readAct", "(I)Z"⟩, 11) := ⟨⟨by decide +kernel, by decide +kernel⟩, List.mem_of_getElem? (i := 360) (by decide +kernel), List.mem_of_getElem? (i := 1124) (by decide +kernel), List.mem_of_getElem? (i := 1125) (by decide +kernel)⟩
theorem lw_p35 : lw_okq (⟨"KnockLane$Book", "addAct", "(III)Z"⟩, 11) := ⟨⟨by decide +kernel, by decide +kernel⟩, List.mem_of_getElem? (i := 360) (by decide +kernel), List.mem_of_getElem? (i := 1130) (by decide +kernel), List.mem_of_getElem? (i := 1131) (by decide +kernel)⟩
theorem lw_p36 : lw_okq (⟨"KnockLane$Book", "addMeeting", "(II)Z"⟩, 11) := ⟨⟨by decide +kernel, by decide +kernel⟩, List.mem_of_getElem? (i := 360) (by decide +kernel), List.mem_of_getElem? (i := 1136) (by decide +kernel), List.mem_of_getElem? (i := 1137) (by decide +kernel)⟩
theorem lw_p37 : lw_okq (⟨"KnockLane$Saying", "readCond", "(LKnockLane$Tape;LKnockLane$Quarter;I)Z"⟩, 7) := ⟨⟨by decide +kernel, by decide +kernel⟩, List.mem_of_getElem? (i := 267) (by decide +kernel), List.mem_of_getElem? (i := 1176) (by decide +kernel), List.mem_of_getElem? (i := 1177) (by decide +kernel)⟩
theorem lw_p38 : lw_okq (⟨"KnockLane$Saying", "readOne", "(LKnockLane$Tape;LKnockLane$Quarter;I)Z"⟩, 7) := ⟨⟨by decide +kernel, by decide +kernel⟩, List.mem_of_getElem? (i := 267) (by decide +kernel), List.mem_of_getElem? (i := 1180) (by decide +kernel), List.mem_of_getElem? (i := 1181) (by decide +kernel)⟩
theorem lw_p39 : lw_okq (⟨"KnockLane$Saying", "readBracket", "(LKnockLane$Tape;LKnockLane$Quarter;I)Z"⟩, 7) := ⟨⟨by decide +kernel, by decide +kernel⟩, List.mem_of_getElem? (i := 267) (by decide +kernel), List.mem_of_getElem? (i := 1192) (by decide +kernel), List.mem_of_getElem? (i := 1193) (by decide +kernel)⟩
theorem lw_p40 : lw_okq (⟨"KnockLane$Saying", "readNot", "(LKnockLane$Tape;LKnockLane$Quarter;I)Z"⟩, 7) := ⟨⟨by decide +kernel, by decide +kernel⟩, List.mem_of_getElem? (i := 267) (by decide +kernel), List.mem_of_getElem? (i := 1197) (by decide +kernel), List.mem_of_getElem? (i := 1198) (by decide +kernel)⟩
theorem lw_p41 : lw_okq (⟨"KnockLane$Saying", "add", "(III)V"⟩, 7) := ⟨⟨by decide +kernel, by decide +kernel⟩, List.mem_of_getElem? (i := 267) (by decide +kernel), List.mem_of_getElem? (i := 1201) (by decide +kernel), List.mem_of_getElem? (i := 1202) (by decide +kernel)⟩
theorem lw_p42 : lw_okq (⟨"KnockLane$Saying", "readPlainOne", "(LKnockLane$Tape;LKnockLane$Quarter;I)Z"⟩, 7) := ⟨⟨by decide +kernel, by decide +kernel⟩, List.mem_of_getElem? (i := 267) (by decide +kernel), List.mem_of_getElem? (i := 1205) (by decide +kernel), List.mem_of_getElem? (i := 1206) (by decide +kernel)⟩
theorem lw_p43 : lw_okq (⟨"KnockLane$Saying", "pop", "()I"⟩, 7) := ⟨⟨by decide +kernel, by decide +kernel⟩, List.mem_of_getElem? (i := 267) (by decide +kernel), List.mem_of_getElem? (i := 1227) (by decide +kernel), List.mem_of_getElem? (i := 1228) (by decide +kernel)⟩
theorem lw_p44 : lw_okq (⟨"KnockLane$Saying", "push", "(I)V"⟩, 7) := ⟨⟨by decide +kernel, by decide +kernel⟩, List.mem_of_getElem? (i := 267) (by decide +kernel), List.mem_of_getElem? (i := 1231) (by decide +kernel), List.mem_of_getElem? (i := 1232) (by decide +kernel)⟩
theorem lw_p45 : lw_okq (⟨"KnockLane", "imageOf", "(I)LKnockLane$Street;"⟩, 15) := ⟨⟨by decide +kernel, by decide +kernel⟩, List.mem_of_getElem? (i := 26) (by decide +kernel), List.mem_of_getElem? (i := 1258) (by decide +kernel), List.mem_of_getElem? (i := 1259) (by decide +kernel)⟩
theorem lw_p46 : lw_okq (⟨"java/lang/Throwable", "fillInStackTrace", "(I)Ljava/lang/Throwable;"⟩, 6) := ⟨⟨by decide +kernel, by decide +kernel⟩, List.mem_of_getElem? (i := 1314) (by decide +kernel), List.mem_of_getElem? (i := 1312) (by decide +kernel), List.mem_of_getElem? (i := 1313) (by decide +kernel)⟩
theorem lw_p47 : lw_okq (⟨"KnockLaneModel", "four", "(I)V"⟩, 48) := ⟨⟨by decide +kernel, by decide +kernel⟩, List.mem_of_getElem? (i := 1364) (by decide +kernel), List.mem_of_getElem? (i := 1362) (by decide +kernel), List.mem_of_getElem? (i := 1363) (by decide +kernel)⟩
def lw_privs_3 : List (MethodName × Nat) := [(⟨"KnockLane$Book", "readTicks", "()Z"⟩, 11), (⟨"KnockLane$Book", "add", "(III)V"⟩, 11), (⟨"KnockLane$Book", "readAct", "(I)Z"⟩, 11), (⟨"KnockLane$Book", "addAct", "(III)Z"⟩, 11), (⟨"KnockLane$Book", "addMeeting", "(II)Z"⟩, 11), (⟨"KnockLane$Saying", "readCond", "(LKnockLane$Tape;LKnockLane$Quarter;I)Z"⟩, 7), (⟨"KnockLane$Saying", "readOne", "(LKnockLane$Tape;LKnockLane$Quarter;I)Z"⟩, 7), (⟨"KnockLane$Saying", "readBracket", "(LKnockLane$Tape;LKnockLane$Quarter;I)Z"⟩, 7), (⟨"KnockLane$Saying", "readNot", "(LKnockLane$Tape;LKnockLane$Quarter;I)Z"⟩, 7), (⟨"KnockLane$Saying", "add", "(III)V"⟩, 7), (⟨"KnockLane$Saying", "readPlainOne", "(LKnockLane$Tape;LKnockLane$Quarter;I)Z"⟩, 7), (⟨"KnockLane$Saying", "pop", "()I"⟩, 7), (⟨"KnockLane$Saying", "push", "(I)V"⟩, 7), (⟨"KnockLane", "imageOf", "(I)LKnockLane$Street;"⟩, 15), (⟨"java/lang/Throwable", "fillInStackTrace", "(I)Ljava/lang/Throwable;"⟩, 6), (⟨"KnockLaneModel", "four", "(I)V"⟩, 48)]
theorem lw_r3 : ∀ q ∈ lw_privs_3, lw_okq q := List.forall_mem_cons.mpr ⟨lw_p32, List.forall_mem_cons.mpr ⟨lw_p33, List.forall_mem_cons.mpr ⟨lw_p34, List.forall_mem_cons.mpr ⟨lw_p35, List.forall_mem_cons.mpr ⟨lw_p36, List.forall_mem_cons.mpr ⟨lw_p37, List.forall_mem_cons.mpr ⟨lw_p38, List.forall_mem_cons.mpr ⟨lw_p39, List.forall_mem_cons.mpr ⟨lw_p40, List.forall_mem_cons.mpr ⟨lw_p41, List.forall_mem_cons.mpr ⟨lw_p42, List.forall_mem_cons.mpr ⟨lw_p43, List.forall_mem_cons.mpr ⟨lw_p44, List.forall_mem_cons.mpr ⟨lw_p45, List.forall_mem_cons.mpr ⟨lw_p46, List.forall_mem_cons.mpr ⟨lw_p47, fun _ h => absurd h List.not_mem_nil⟩⟩⟩⟩⟩⟩⟩⟩⟩⟩⟩⟩⟩⟩⟩⟩
theorem lw_p48 : lw_okq (⟨"KnockLaneModel", "clears", "()V"⟩, 48) := ⟨⟨by decide +kernel, by decide +kernel⟩, List.mem_of_getElem? (i := 1364) (by decide +kernel), List.mem_of_getElem? (i := 1405) (by decide +kernel), List.mem_of_getElem? (i := 1406) (by decide +kernel)⟩
theorem lw_p49 : lw_okq (⟨"KnockLaneModel", "taken", "(I)V"⟩, 48) := ⟨⟨by decide +kernel, by decide +kernel⟩, List.mem_of_getElem? (i := 1364) (by decide +kernel), List.mem_of_getElem? (i := 1558) (by decide +kernel), List.mem_of_getElem? (i := 1559) (by decide +kernel)⟩
theorem lw_p50 : lw_okq (⟨"KnockLaneModel", "next", "()V"⟩, 48) := ⟨⟨by decide +kernel, by decide +kernel⟩, List.mem_of_getElem? (i := 1364) (by decide +kernel), List.mem_of_getElem? (i := 1562) (by decide +kernel), List.mem_of_getElem? (i := 1563) (by decide +kernel)⟩
theorem lw_p51 : lw_okq (⟨"KnockLaneModel", "peek", "()I"⟩, 48) := ⟨⟨by decide +kernel, by decide +kernel⟩, List.mem_of_getElem? (i := 1364) (by decide +kernel), List.mem_of_getElem? (i := 1566) (by decide +kernel), List.mem_of_getElem? (i := 1567) (by decide +kernel)⟩
theorem lw_p52 : lw_okq (⟨"KnockLaneModel", "readLine", "()Z"⟩, 48) := ⟨⟨by decide +kernel, by decide +kernel⟩, List.mem_of_getElem? (i := 1364) (by decide +kernel), List.mem_of_getElem? (i := 1576) (by decide +kernel), List.mem_of_getElem? (i := 1577) (by decide +kernel)⟩
theorem lw_p53 : lw_okq (⟨"KnockLaneModel", "isWord", "(J)Z"⟩, 48) := ⟨⟨by decide +kernel, by decide +kernel⟩, List.mem_of_getElem? (i := 1364) (by decide +kernel), List.mem_of_getElem? (i := 1580) (by decide +kernel), List.mem_of_getElem? (i := 1581) (by decide +kernel)⟩
theorem lw_p54 : lw_okq (⟨"KnockLaneModel", "once", "(I)Z"⟩, 48) := ⟨⟨by decide +kernel, by decide +kernel⟩, List.mem_of_getElem? (i := 1364) (by decide +kernel), List.mem_of_getElem? (i := 1584) (by decide +kernel), List.mem_of_getElem? (i := 1585) (by decide +kernel)⟩
theorem lw_p55 : lw_okq (⟨"KnockLaneModel", "bad", "(I)Z"⟩, 48) := ⟨⟨by decide +kernel, by decide +kernel⟩, List.mem_of_getElem? (i := 1364) (by decide +kernel), List.mem_of_getElem? (i := 1591) (by decide +kernel), List.mem_of_getElem? (i := 1592) (by decide +kernel)⟩
theorem lw_p56 : lw_okq (⟨"KnockLaneModel", "puts", "(III)Z"⟩, 48) := ⟨⟨by decide +kernel, by decide +kernel⟩, List.mem_of_getElem? (i := 1364) (by decide +kernel), List.mem_of_getElem? (i := 1595) (by decide +kernel), List.mem_of_getElem? (i := 1596) (by decide +kernel)⟩
theorem lw_p57 : lw_okq (⟨"KnockLaneModel", "takes", "(II)Z"⟩, 48) := ⟨⟨by decide +kernel, by decide +kernel⟩, List.mem_of_getElem? (i := 1364) (by decide +kernel), List.mem_of_getElem? (i := 1599) (by decide +kernel), List.mem_of_getElem? (i := 1600) (by decide +kernel)⟩
theorem lw_p58 : lw_okq (⟨"KnockLaneModel", "readHouse", "()Z"⟩, 48) := ⟨⟨by decide +kernel, by decide +kernel⟩, List.mem_of_getElem? (i := 1364) (by decide +kernel), List.mem_of_getElem? (i := 1606) (by decide +kernel), List.mem_of_getElem? (i := 1607) (by decide +kernel)⟩
theorem lw_p59 : lw_okq (⟨"KnockLaneModel", "fresh", "(I)Z"⟩, 48) := ⟨⟨by decide +kernel, by decide +kernel⟩, List.mem_of_getElem? (i := 1364) (by decide +kernel), List.mem_of_getElem? (i := 1610) (by decide +kernel), List.mem_of_getElem? (i := 1611) (by decide +kernel)⟩
theorem lw_p60 : lw_okq (⟨"KnockLaneModel", "isName", "()Z"⟩, 48) := ⟨⟨by decide +kernel, by decide +kernel⟩, List.mem_of_getElem? (i := 1364) (by decide +kernel), List.mem_of_getElem? (i := 1614) (by decide +kernel), List.mem_of_getElem? (i := 1615) (by decide +kernel)⟩
theorem lw_p61 : lw_okq (⟨"KnockLaneModel", "seek", "(II)I"⟩, 48) := ⟨⟨by decide +kernel, by decide +kernel⟩, List.mem_of_getElem? (i := 1364) (by decide +kernel), List.mem_of_getElem? (i := 1618) (by decide +kernel), List.mem_of_getElem? (i := 1619) (by decide +kernel)⟩
theorem lw_p62 : lw_okq (⟨"KnockLaneModel", "readPerson", "()Z"⟩, 48) := ⟨⟨by decide +kernel, by decide +kernel⟩, List.mem_of_getElem? (i := 1364) (by decide +kernel), List.mem_of_getElem? (i := 1622) (by decide +kernel), List.mem_of_getElem? (i := 1623) (by decide +kernel)⟩
theorem lw_p63 : lw_okq (⟨"KnockLaneModel", "takesName", "(II)Z"⟩, 48) := ⟨⟨by decide +kernel, by decide +kernel⟩, List.mem_of_getElem? (i := 1364) (by decide +kernel), List.mem_of_getElem? (i := 1626) (by decide +kernel), List.mem_of_getElem? (i := 1627) (by decide +kernel)⟩
def lw_privs_4 : List (MethodName × Nat) := [(⟨"KnockLaneModel", "clears", "()V"⟩, 48), (⟨"KnockLaneModel", "taken", "(I)V"⟩, 48), (⟨"KnockLaneModel", "next", "()V"⟩, 48), (⟨"KnockLaneModel", "peek", "()I"⟩, 48), (⟨"KnockLaneModel", "readLine", "()Z"⟩, 48), (⟨"KnockLaneModel", "isWord", "(J)Z"⟩, 48), (⟨"KnockLaneModel", "once", "(I)Z"⟩, 48), (⟨"KnockLaneModel", "bad", "(I)Z"⟩, 48), (⟨"KnockLaneModel", "puts", "(III)Z"⟩, 48), (⟨"KnockLaneModel", "takes", "(II)Z"⟩, 48), (⟨"KnockLaneModel", "readHouse", "()Z"⟩, 48), (⟨"KnockLaneModel", "fresh", "(I)Z"⟩, 48), (⟨"KnockLaneModel", "isName", "()Z"⟩, 48), (⟨"KnockLaneModel", "seek", "(II)I"⟩, 48), (⟨"KnockLaneModel", "readPerson", "()Z"⟩, 48), (⟨"KnockLaneModel", "takesName", "(II)Z"⟩, 48)]
theorem lw_r4 : ∀ q ∈ lw_privs_4, lw_okq q := List.forall_mem_cons.mpr ⟨lw_p48, List.forall_mem_cons.mpr ⟨lw_p49, List.forall_mem_cons.mpr ⟨lw_p50, List.forall_mem_cons.mpr ⟨lw_p51, List.forall_mem_cons.mpr ⟨lw_p52, List.forall_mem_cons.mpr ⟨lw_p53, List.forall_mem_cons.mpr ⟨lw_p54, List.forall_mem_cons.mpr ⟨lw_p55, List.forall_mem_cons.mpr ⟨lw_p56, List.forall_mem_cons.mpr ⟨lw_p57, List.forall_mem_cons.mpr ⟨lw_p58, List.forall_mem_cons.mpr ⟨lw_p59, List.forall_mem_cons.mpr ⟨lw_p60, List.forall_mem_cons.mpr ⟨lw_p61, List.forall_mem_cons.mpr ⟨lw_p62, List.forall_mem_cons.mpr ⟨lw_p63, fun _ h => absurd h List.not_mem_nil⟩⟩⟩⟩⟩⟩⟩⟩⟩⟩⟩⟩⟩⟩⟩⟩
theorem lw_p64 : lw_okq (⟨"KnockLaneModel", "looksAt", "(II)Z"⟩, 48) := ⟨⟨by decide +kernel, by decide +kernel⟩, List.mem_of_getElem? (i := 1364) (by decide +kernel), List.mem_of_getElem? (i := 1630) (by decide +kernel), List.mem_of_getElem? (i := 1631) (by decide +kernel)⟩
theorem lw_p65 : lw_okq (⟨"KnockLaneModel", "takesWay", "()Z"⟩, 48) := ⟨⟨by decide +kernel, by decide +kernel⟩, List.mem_of_getElem? (i := 1364) (by decide +kernel), List.mem_of_getElem? (i := 1634) (by decide +kernel), List.mem_of_getElem? (i := 1635) (by decide +kernel)⟩
theorem lw_p66 : lw_okq (⟨"KnockLaneModel", "wayWord", "()I"⟩, 48) := ⟨⟨by decide +kernel, by decide +kernel⟩, List.mem_of_getElem? (i := 1364) (by decide +kernel), List.mem_of_getElem? (i := 1638) (by decide +kernel), List.mem_of_getElem? (i := 1639) (by decide +kernel)⟩
theorem lw_p67 : lw_okq (⟨"KnockLaneModel", "readKnows", "()Z"⟩, 48) := ⟨⟨by decide +kernel, by decide +kernel⟩, List.mem_of_getElem? (i := 1364) (by decide +kernel), List.mem_of_getElem? (i := 1645) (by decide +kernel), List.mem_of_getElem? (i := 1646) (by decide +kernel)⟩
theorem lw_p68 : lw_okq (⟨"KnockLaneModel", "readCalls", "()Z"⟩, 48) := ⟨⟨by decide +kernel, by decide +kernel⟩, List.mem_of_getElem? (i := 1364) (by decide +kernel), List.mem_of_getElem? (i := 1649) (by decide +kernel), List.mem_of_getElem? (i := 1650) (by decide +kernel)⟩
theorem lw_p69 : lw_okq (⟨"KnockLaneModel", "sign", "(I)Z"⟩, 48) := ⟨⟨by decide +kernel, by decide +kernel⟩, List.mem_of_getElem? (i := 1364) (by decide +kernel), List.mem_of_getElem? (i := 1653) (by decide +kernel), List.mem_of_getElem? (i := 1654) (by decide +kernel)⟩
theorem lw_p70 : lw_okq (⟨"KnockLaneModel", "isSign", "(I)Z"⟩, 48) := ⟨⟨by decide +kernel, by decide +kernel⟩, List.mem_of_getElem? (i := 1364) (by decide +kernel), List.mem_of_getElem? (i := 1657) (by decide +kernel), List.mem_of_getElem? (i := 1658) (by decide +kernel)⟩
theorem lw_p71 : lw_okq (⟨"KnockLaneModel", "isHouse", "(I)Z"⟩, 48) := ⟨⟨by decide +kernel, by decide +kernel⟩, List.mem_of_getElem? (i := 1364) (by decide +kernel), List.mem_of_getElem? (i := 1669) (by decide +kernel), List.mem_of_getElem? (i := 1670) (by decide +kernel)⟩
theorem lw_p72 : lw_okq (⟨"KnockLaneModel", "dwellers", "(I)I"⟩, 48) := ⟨⟨by decide +kernel, by decide +kernel⟩, List.mem_of_getElem? (i := 1364) (by decide +kernel), List.mem_of_getElem? (i := 1673) (by decide +kernel), List.mem_of_getElem? (i := 1674) (by decide +kernel)⟩
theorem lw_p73 : lw_okq (⟨"KnockLaneModel", "strangers", "(I)I"⟩, 48) := ⟨⟨by decide +kernel, by decide +kernel⟩, List.mem_of_getElem? (i := 1364) (by decide +kernel), List.mem_of_getElem? (i := 1677) (by decide +kernel), List.mem_of_getElem? (i := 1678) (by decide +kernel)⟩
theorem lw_p74 : lw_okq (⟨"KnockLaneModel", "isStranger", "(II)Z"⟩, 48) := ⟨⟨by decide +kernel, by decide +kernel⟩, List.mem_of_getElem? (i := 1364) (by decide +kernel), List.mem_of_getElem? (i := 1681) (by decide +kernel), List.mem_of_getElem? (i := 1682) (by decide +kernel)⟩
theorem lw_p75 : lw_okq (⟨"KnockLaneModel", "areAt", "(II)I"⟩, 48) := ⟨⟨by decide +kernel, by decide +kernel⟩, List.mem_of_getElem? (i := 1364) (by decide +kernel), List.mem_of_getElem? (i := 1685) (by decide +kernel), List.mem_of_getElem? (i := 1686) (by decide +kernel)⟩
theorem lw_p76 : lw_okq (⟨"KnockLaneModel", "isPerson", "(I)Z"⟩, 48) := ⟨⟨by decide +kernel, by decide +kernel⟩, List.mem_of_getElem? (i := 1364) (by decide +kernel), List.mem_of_getElem? (i := 1693) (by decide +kernel), List.mem_of_getElem? (i := 1694) (by decide +kernel)⟩
theorem lw_p77 : lw_okq (⟨"KnockLaneModel", "throwsIf", "(Z)Z"⟩, 48) := ⟨⟨by decide +kernel, by decide +kernel⟩, List.mem_of_getElem? (i := 1364) (by decide +kernel), List.mem_of_getElem? (i := 1697) (by decide +kernel), List.mem_of_getElem? (i := 1698) (by decide +kernel)⟩
theorem lw_p78 : lw_okq (⟨"KnockLaneModel", "are", "(I)I"⟩, 48) := ⟨⟨by decide +kernel, by decide +kernel⟩, List.mem_of_getElem? (i := 1364) (by decide +kernel), List.mem_of_getElem? (i := 1709) (by decide +kernel), List.mem_of_getElem? (i := 1710) (by decide +kernel)⟩
theorem lw_p79 : lw_okq (⟨"KnockLaneModel", "openHouses", "()I"⟩, 48) := ⟨⟨by decide +kernel, by decide +kernel⟩, List.mem_of_getElem? (i := 1364) (by decide +kernel), List.mem_of_getElem? (i := 1713) (by decide +kernel), List.mem_of_getElem? (i := 1714) (by decide +kernel)⟩
def lw_privs_5 : List (MethodName × Nat) := [(⟨"KnockLaneModel", "looksAt", "(II)Z"⟩, 48), (⟨"KnockLaneModel", "takesWay", "()Z"⟩, 48), (⟨"KnockLaneModel", "wayWord", "()I"⟩, 48), (⟨"KnockLaneModel", "readKnows", "()Z"⟩, 48), (⟨"KnockLaneModel", "readCalls", "()Z"⟩, 48), (⟨"KnockLaneModel", "sign", "(I)Z"⟩, 48), (⟨"KnockLaneModel", "isSign", "(I)Z"⟩, 48), (⟨"KnockLaneModel", "isHouse", "(I)Z"⟩, 48), (⟨"KnockLaneModel", "dwellers", "(I)I"⟩, 48), (⟨"KnockLaneModel", "strangers", "(I)I"⟩, 48), (⟨"KnockLaneModel", "isStranger", "(II)Z"⟩, 48), (⟨"KnockLaneModel", "areAt", "(II)I"⟩, 48), (⟨"KnockLaneModel", "isPerson", "(I)Z"⟩, 48), (⟨"KnockLaneModel", "throwsIf", "(Z)Z"⟩, 48), (⟨"KnockLaneModel", "are", "(I)I"⟩, 48), (⟨"KnockLaneModel", "openHouses", "()I"⟩, 48)]
theorem lw_r5 : ∀ q ∈ lw_privs_5, lw_okq q := List.forall_mem_cons.mpr ⟨lw_p64, List.forall_mem_cons.mpr ⟨lw_p65, List.forall_mem_cons.mpr ⟨lw_p66, List.forall_mem_cons.mpr ⟨lw_p67, List.forall_mem_cons.mpr ⟨lw_p68, List.forall_mem_cons.mpr ⟨lw_p69, List.forall_mem_cons.mpr ⟨lw_p70, List.forall_mem_cons.mpr ⟨lw_p71, List.forall_mem_cons.mpr ⟨lw_p72, List.forall_mem_cons.mpr ⟨lw_p73, List.forall_mem_cons.mpr ⟨lw_p74, List.forall_mem_cons.mpr ⟨lw_p75, List.forall_mem_cons.mpr ⟨lw_p76, List.forall_mem_cons.mpr ⟨lw_p77, List.forall_mem_cons.mpr ⟨lw_p78, List.forall_mem_cons.mpr ⟨lw_p79, fun _ h => absurd h List.not_mem_nil⟩⟩⟩⟩⟩⟩⟩⟩⟩⟩⟩⟩⟩⟩⟩⟩
theorem lw_p80 : lw_okq (⟨"KnockLaneModel", "whyKnock", "(II)I"⟩, 48) := ⟨⟨by decide +kernel, by decide +kernel⟩, List.mem_of_getElem? (i := 1364) (by decide +kernel), List.mem_of_getElem? (i := 1721) (by decide +kernel), List.mem_of_getElem? (i := 1722) (by decide +kernel)⟩
theorem lw_p81 : lw_okq (⟨"KnockLaneModel", "stores", "()V"⟩, 48) := ⟨⟨by decide +kernel, by decide +kernel⟩, List.mem_of_getElem? (i := 1364) (by decide +kernel), List.mem_of_getElem? (i := 1725) (by decide +kernel), List.mem_of_getElem? (i := 1726) (by decide +kernel)⟩
theorem lw_p82 : lw_okq (⟨"KnockLaneModel", "stands", "(III)V"⟩, 48) := ⟨⟨by decide +kernel, by decide +kernel⟩, List.mem_of_getElem? (i := 1364) (by decide +kernel), List.mem_of_getElem? (i := 1729) (by decide +kernel), List.mem_of_getElem? (i := 1730) (by decide +kernel)⟩
theorem lw_p83 : lw_okq (⟨"KnockLaneModel", "whyGo", "(II)I"⟩, 48) := ⟨⟨by decide +kernel, by decide +kernel⟩, List.mem_of_getElem? (i := 1364) (by decide +kernel), List.mem_of_getElem? (i := 1737) (by decide +kernel), List.mem_of_getElem? (i := 1738) (by decide +kernel)⟩
theorem lw_p84 : lw_okq (⟨"KnockLaneModel", "whyCall", "(II)I"⟩, 48) := ⟨⟨by decide +kernel, by decide +kernel⟩, List.mem_of_getElem? (i := 1364) (by decide +kernel), List.mem_of_getElem? (i := 1753) (by decide +kernel), List.mem_of_getElem? (i := 1754) (by decide +kernel)⟩
theorem lw_p85 : lw_okq (⟨"KnockLaneModel", "callOf", "(II)I"⟩, 48) := ⟨⟨by decide +kernel, by decide +kernel⟩, List.mem_of_getElem? (i := 1364) (by decide +kernel), List.mem_of_getElem? (i := 1757) (by decide +kernel), List.mem_of_getElem? (i := 1758) (by decide +kernel)⟩
theorem lw_p86 : lw_okq (⟨"KnockLaneModel", "books", "(II)V"⟩, 48) := ⟨⟨by decide +kernel, by decide +kernel⟩, List.mem_of_getElem? (i := 1364) (by decide +kernel), List.mem_of_getElem? (i := 1761) (by decide +kernel), List.mem_of_getElem? (i := 1762) (by decide +kernel)⟩
theorem lw_p87 : lw_okq (⟨"KnockLaneModel", "goesOn", "(I)I"⟩, 48) := ⟨⟨by decide +kernel, by decide +kernel⟩, List.mem_of_getElem? (i := 1364) (by decide +kernel), List.mem_of_getElem? (i := 1769) (by decide +kernel), List.mem_of_getElem? (i := 1770) (by decide +kernel)⟩
theorem lw_p88 : lw_okq (⟨"KnockLaneModel", "tick", "()V"⟩, 48) := ⟨⟨by decide +kernel, by decide +kernel⟩, List.mem_of_getElem? (i := 1364) (by decide +kernel), List.mem_of_getElem? (i := 1773) (by decide +kernel), List.mem_of_getElem? (i := 1774) (by decide +kernel)⟩
theorem lw_p89 : lw_okq (⟨"KnockLaneModel", "walks", "(I)V"⟩, 48) := ⟨⟨by decide +kernel, by decide +kernel⟩, List.mem_of_getElem? (i := 1364) (by decide +kernel), List.mem_of_getElem? (i := 1777) (by decide +kernel), List.mem_of_getElem? (i := 1778) (by decide +kernel)⟩
theorem lw_p90 : lw_okq (⟨"KnockLaneModel", "strikes", "(I)V"⟩, 48) := ⟨⟨by decide +kernel, by decide +kernel⟩, List.mem_of_getElem? (i := 1364) (by decide +kernel), List.mem_of_getElem? (i := 1781) (by decide +kernel), List.mem_of_getElem? (i := 1782) (by decide +kernel)⟩
theorem lw_p91 : lw_okq (⟨"KnockLaneModel", "answers", "(II)I"⟩, 48) := ⟨⟨by decide +kernel, by decide +kernel⟩, List.mem_of_getElem? (i := 1364) (by decide +kernel), List.mem_of_getElem? (i := 1785) (by decide +kernel), List.mem_of_getElem? (i := 1786) (by decide +kernel)⟩
theorem lw_p92 : lw_okq (⟨"KnockLaneModel", "canAnswer", "(II)Z"⟩, 48) := ⟨⟨by decide +kernel, by decide +kernel⟩, List.mem_of_getElem? (i := 1364) (by decide +kernel), List.mem_of_getElem? (i := 1790) (by decide +kernel), List.mem_of_getElem? (i := 1791) (by decide +kernel)⟩
theorem lw_p93 : lw_okq (⟨"KnockLaneModel", "opens0", "(II)V"⟩, 48) := ⟨⟨by decide +kernel, by decide +kernel⟩, List.mem_of_getElem? (i := 1364) (by decide +kernel), List.mem_of_getElem? (i := 1794) (by decide +kernel), List.mem_of_getElem? (i := 1795) (by decide +kernel)⟩
theorem lw_p94 : lw_okq (⟨"KnockLaneModel", "areAnswered", "(I)Z"⟩, 48) := ⟨⟨by decide +kernel, by decide +kernel⟩, List.mem_of_getElem? (i := 1364) (by decide +kernel), List.mem_of_getElem? (i := 1813) (by decide +kernel), List.mem_of_getElem? (i := 1814) (by decide +kernel)⟩
theorem lw_p95 : lw_okq (⟨"KnockLaneModel", "octet", "(I)I"⟩, 48) := ⟨⟨by decide +kernel, by decide +kernel⟩, List.mem_of_getElem? (i := 1364) (by decide +kernel), List.mem_of_getElem? (i := 1833) (by decide +kernel), List.mem_of_getElem? (i := 1834) (by decide +kernel)⟩
def lw_privs_6 : List (MethodName × Nat) := [(⟨"KnockLaneModel", "whyKnock", "(II)I"⟩, 48), (⟨"KnockLaneModel", "stores", "()V"⟩, 48), (⟨"KnockLaneModel", "stands", "(III)V"⟩, 48), (⟨"KnockLaneModel", "whyGo", "(II)I"⟩, 48), (⟨"KnockLaneModel", "whyCall", "(II)I"⟩, 48), (⟨"KnockLaneModel", "callOf", "(II)I"⟩, 48), (⟨"KnockLaneModel", "books", "(II)V"⟩, 48), (⟨"KnockLaneModel", "goesOn", "(I)I"⟩, 48), (⟨"KnockLaneModel", "tick", "()V"⟩, 48), (⟨"KnockLaneModel", "walks", "(I)V"⟩, 48), (⟨"KnockLaneModel", "strikes", "(I)V"⟩, 48), (⟨"KnockLaneModel", "answers", "(II)I"⟩, 48), (⟨"KnockLaneModel", "canAnswer", "(II)Z"⟩, 48), (⟨"KnockLaneModel", "opens0", "(II)V"⟩, 48), (⟨"KnockLaneModel", "areAnswered", "(I)Z"⟩, 48), (⟨"KnockLaneModel", "octet", "(I)I"⟩, 48)]
theorem lw_r6 : ∀ q ∈ lw_privs_6, lw_okq q := List.forall_mem_cons.mpr ⟨lw_p80, List.forall_mem_cons.mpr ⟨lw_p81, List.forall_mem_cons.mpr ⟨lw_p82, List.forall_mem_cons.mpr ⟨lw_p83, List.forall_mem_cons.mpr ⟨lw_p84, List.forall_mem_cons.mpr ⟨lw_p85, List.forall_mem_cons.mpr ⟨lw_p86, List.forall_mem_cons.mpr ⟨lw_p87, List.forall_mem_cons.mpr ⟨lw_p88, List.forall_mem_cons.mpr ⟨lw_p89, List.forall_mem_cons.mpr ⟨lw_p90, List.forall_mem_cons.mpr ⟨lw_p91, List.forall_mem_cons.mpr ⟨lw_p92, List.forall_mem_cons.mpr ⟨lw_p93, List.forall_mem_cons.mpr ⟨lw_p94, List.forall_mem_cons.mpr ⟨lw_p95, fun _ h => absurd h List.not_mem_nil⟩⟩⟩⟩⟩⟩⟩⟩⟩⟩⟩⟩⟩⟩⟩⟩
theorem lw_p96 : lw_okq (⟨"KnockLaneModel", "isMeant", "(I)Z"⟩, 48) := ⟨⟨by decide +kernel, by decide +kernel⟩, List.mem_of_getElem? (i := 1364) (by decide +kernel), List.mem_of_getElem? (i := 1837) (by decide +kernel), List.mem_of_getElem? (i := 1838) (by decide +kernel)⟩
theorem lw_p97 : lw_okq (⟨"KnockLaneModel", "leftBy", "(II)I"⟩, 48) := ⟨⟨by decide +kernel, by decide +kernel⟩, List.mem_of_getElem? (i := 1364) (by decide +kernel), List.mem_of_getElem? (i := 1841) (by decide +kernel), List.mem_of_getElem? (i := 1842) (by decide +kernel)⟩
theorem lw_p98 : lw_okq (⟨"KnockLaneModel", "tries", "()V"⟩, 48) := ⟨⟨by decide +kernel, by decide +kernel⟩, List.mem_of_getElem? (i := 1364) (by decide +kernel), List.mem_of_getElem? (i := 1856) (by decide +kernel), List.mem_of_getElem? (i := 1857) (by decide +kernel)⟩
theorem lw_p99 : lw_okq (⟨"KnockLaneModel", "brings", "()V"⟩, 48) := ⟨⟨by decide +kernel, by decide +kernel⟩, List.mem_of_getElem? (i := 1364) (by decide +kernel), List.mem_of_getElem? (i := 1860) (by decide +kernel), List.mem_of_getElem? (i := 1861) (by decide +kernel)⟩
theorem lw_p100 : lw_okq (⟨"KnockLaneModel", "spells", "(J)V"⟩, 48) := ⟨⟨by decide +kernel, by decide +kernel⟩, List.mem_of_getElem? (i := 1364) (by decide +kernel), List.mem_of_getElem? (i := 1884) (by decide +kernel), List.mem_of_getElem? (i := 1885) (by decide +kernel)⟩
theorem lw_p101 : lw_okq (⟨"KnockLaneModel", "lays", "(I)V"⟩, 48) := ⟨⟨by decide +kernel, by decide +kernel⟩, List.mem_of_getElem? (i := 1364) (by decide +kernel), List.mem_of_getElem? (i := 1889) (by decide +kernel), List.mem_of_getElem? (i := 1890) (by decide +kernel)⟩
theorem lw_p102 : lw_okq (⟨"KnockLaneModel", "says", "(J)V"⟩, 48) := ⟨⟨by decide +kernel, by decide +kernel⟩, List.mem_of_getElem? (i := 1364) (by decide +kernel), List.mem_of_getElem? (i := 1893) (by decide +kernel), List.mem_of_getElem? (i := 1894) (by decide +kernel)⟩
theorem lw_p103 : lw_okq (⟨"KnockLaneModel", "draws", "(II)I"⟩, 48) := ⟨⟨by decide +kernel, by decide +kernel⟩, List.mem_of_getElem? (i := 1364) (by decide +kernel), List.mem_of_getElem? (i := 1907) (by decide +kernel), List.mem_of_getElem? (i := 1908) (by decide +kernel)⟩
theorem lw_p104 : lw_okq (⟨"KnockLaneModel", "drawPerson", "(I)V"⟩, 48) := ⟨⟨by decide +kernel, by decide +kernel⟩, List.mem_of_getElem? (i := 1364) (by decide +kernel), List.mem_of_getElem? (i := 1911) (by decide +kernel), List.mem_of_getElem? (i := 1912) (by decide +kernel)⟩
theorem lw_p105 : lw_okq (⟨"KnockLaneModel", "draw", "(I)I"⟩, 48) := ⟨⟨by decide +kernel, by decide +kernel⟩, List.mem_of_getElem? (i := 1364) (by decide +kernel), List.mem_of_getElem? (i := 1915) (by decide +kernel), List.mem_of_getElem? (i := 1916) (by decide +kernel)⟩
theorem lw_p106 : lw_okq (⟨"KnockLaneModel", "bookLine", "()Z"⟩, 48) := ⟨⟨by decide +kernel, by decide +kernel⟩, List.mem_of_getElem? (i := 1364) (by decide +kernel), List.mem_of_getElem? (i := 1928) (by decide +kernel), List.mem_of_getElem? (i := 1929) (by decide +kernel)⟩
theorem lw_p107 : lw_okq (⟨"KnockLaneModel", "does", "(III)I"⟩, 48) := ⟨⟨by decide +kernel, by decide +kernel⟩, List.mem_of_getElem? (i := 1364) (by decide +kernel), List.mem_of_getElem? (i := 1932) (by decide +kernel), List.mem_of_getElem? (i := 1933) (by decide +kernel)⟩
theorem lw_p108 : lw_okq (⟨"KnockLaneModel", "nots", "()V"⟩, 48) := ⟨⟨by decide +kernel, by decide +kernel⟩, List.mem_of_getElem? (i := 1364) (by decide +kernel), List.mem_of_getElem? (i := 1944) (by decide +kernel), List.mem_of_getElem? (i := 1945) (by decide +kernel)⟩
theorem lw_p109 : lw_okq (⟨"KnockLaneModel", "code", "(III)V"⟩, 48) := ⟨⟨by decide +kernel, by decide +kernel⟩, List.mem_of_getElem? (i := 1364) (by decide +kernel), List.mem_of_getElem? (i := 1948) (by decide +kernel), List.mem_of_getElem? (i := 1949) (by decide +kernel)⟩
theorem lw_p110 : lw_okq (⟨"KnockLaneModel", "joins", "(I)V"⟩, 48) := ⟨⟨by decide +kernel, by decide +kernel⟩, List.mem_of_getElem? (i := 1364) (by decide +kernel), List.mem_of_getElem? (i := 1952) (by decide +kernel), List.mem_of_getElem? (i := 1953) (by decide +kernel)⟩
theorem lw_p111 : lw_okq (⟨"KnockLaneModel", "behind", "()Z"⟩, 48) := ⟨⟨by decide +kernel, by decide +kernel⟩, List.mem_of_getElem? (i := 1364) (by decide +kernel), List.mem_of_getElem? (i := 1956) (by decide +kernel), List.mem_of_getElem? (i := 1957) (by decide +kernel)⟩
def lw_privs_7 : List (MethodName × Nat) := [(⟨"KnockLaneModel", "isMeant", "(I)Z"⟩, 48), (⟨"KnockLaneModel", "leftBy", "(II)I"⟩, 48), (⟨"KnockLaneModel", "tries", "()V"⟩, 48), (⟨"KnockLaneModel", "brings", "()V"⟩, 48), (⟨"KnockLaneModel", "spells", "(J)V"⟩, 48), (⟨"KnockLaneModel", "lays", "(I)V"⟩, 48), (⟨"KnockLaneModel", "says", "(J)V"⟩, 48), (⟨"KnockLaneModel", "draws", "(II)I"⟩, 48), (⟨"KnockLaneModel", "drawPerson", "(I)V"⟩, 48), (⟨"KnockLaneModel", "draw", "(I)I"⟩, 48), (⟨"KnockLaneModel", "bookLine", "()Z"⟩, 48), (⟨"KnockLaneModel", "does", "(III)I"⟩, 48), (⟨"KnockLaneModel", "nots", "()V"⟩, 48), (⟨"KnockLaneModel", "code", "(III)V"⟩, 48), (⟨"KnockLaneModel", "joins", "(I)V"⟩, 48), (⟨"KnockLaneModel", "behind", "()Z"⟩, 48)]
theorem lw_r7 : ∀ q ∈ lw_privs_7, lw_okq q := List.forall_mem_cons.mpr ⟨lw_p96, List.forall_mem_cons.mpr ⟨lw_p97, List.forall_mem_cons.mpr ⟨lw_p98, List.forall_mem_cons.mpr ⟨lw_p99, List.forall_mem_cons.mpr ⟨lw_p100, List.forall_mem_cons.mpr ⟨lw_p101, List.forall_mem_cons.mpr ⟨lw_p102, List.forall_mem_cons.mpr ⟨lw_p103, List.forall_mem_cons.mpr ⟨lw_p104, List.forall_mem_cons.mpr ⟨lw_p105, List.forall_mem_cons.mpr ⟨lw_p106, List.forall_mem_cons.mpr ⟨lw_p107, List.forall_mem_cons.mpr ⟨lw_p108, List.forall_mem_cons.mpr ⟨lw_p109, List.forall_mem_cons.mpr ⟨lw_p110, List.forall_mem_cons.mpr ⟨lw_p111, fun _ h => absurd h List.not_mem_nil⟩⟩⟩⟩⟩⟩⟩⟩⟩⟩⟩⟩⟩⟩⟩⟩
theorem lw_p112 : lw_okq (⟨"KnockLaneModel", "operand", "()Z"⟩, 48) := ⟨⟨by decide +kernel, by decide +kernel⟩, List.mem_of_getElem? (i := 1364) (by decide +kernel), List.mem_of_getElem? (i := 1960) (by decide +kernel), List.mem_of_getElem? (i := 1961) (by decide +kernel)⟩
theorem lw_p113 : lw_okq (⟨"KnockLaneModel", "leafOf", "()I"⟩, 48) := ⟨⟨by decide +kernel, by decide +kernel⟩, List.mem_of_getElem? (i := 1364) (by decide +kernel), List.mem_of_getElem? (i := 1964) (by decide +kernel), List.mem_of_getElem? (i := 1965) (by decide +kernel)⟩
theorem lw_p114 : lw_okq (⟨"KnockLaneModel", "isSaid", "(I)Z"⟩, 48) := ⟨⟨by decide +kernel, by decide +kernel⟩, List.mem_of_getElem? (i := 1364) (by decide +kernel), List.mem_of_getElem? (i := 1972) (by decide +kernel), List.mem_of_getElem? (i := 1973) (by decide +kernel)⟩
theorem lw_p115 : lw_okq (⟨"KnockLaneModel", "isLeaf", "(IIII)Z"⟩, 48) := ⟨⟨by decide +kernel, by decide +kernel⟩, List.mem_of_getElem? (i := 1364) (by decide +kernel), List.mem_of_getElem? (i := 1976) (by decide +kernel), List.mem_of_getElem? (i := 1977) (by decide +kernel)⟩
def lw_privs_8 : List (MethodName × Nat) := [(⟨"KnockLaneModel", "operand", "()Z"⟩, 48), (⟨"KnockLaneModel", "leafOf", "()I"⟩, 48), (⟨"KnockLaneModel", "isSaid", "(I)Z"⟩, 48), (⟨"KnockLaneModel", "isLeaf", "(IIII)Z"⟩, 48)]
theorem lw_r8 : ∀ q ∈ lw_privs_8, lw_okq q := List.forall_mem_cons.mpr ⟨lw_p112, List.forall_mem_cons.mpr ⟨lw_p113, List.forall_mem_cons.mpr ⟨lw_p114, List.forall_mem_cons.mpr ⟨lw_p115, fun _ h => absurd h List.not_mem_nil⟩⟩⟩⟩
def lw_privs : List (MethodName × Nat) := lw_privs_1 ++ (lw_privs_2 ++ (lw_privs_3 ++ (lw_privs_4 ++ (lw_privs_5 ++ (lw_privs_6 ++ (lw_privs_7 ++ (lw_privs_8)))))))
def lw_tbl : List Cond := k2_sels lw_privs ++ tables_1
theorem lw_privs_ok : ∀ q ∈ lw_privs, lw_okq q := by
  show ∀ q ∈ lw_privs_1 ++ (lw_privs_2 ++ (lw_privs_3 ++ (lw_privs_4 ++ (lw_privs_5 ++ (lw_privs_6 ++ (lw_privs_7 ++ (lw_privs_8))))))), lw_okq q
  exact List.forall_mem_append.mpr ⟨lw_r1, List.forall_mem_append.mpr ⟨lw_r2, List.forall_mem_append.mpr ⟨lw_r3, List.forall_mem_append.mpr ⟨lw_r4, List.forall_mem_append.mpr ⟨lw_r5, List.forall_mem_append.mpr ⟨lw_r6, List.forall_mem_append.mpr ⟨lw_r7, lw_r8⟩⟩⟩⟩⟩⟩⟩
def RX0 : String := "KnockLane$Book"
def TX0 : u_T := fun k => match k with
  | 0 => ("KnockLane$Book", "why", "I", false)
  | 1 => ("KnockLane$Book", "lived", "I", false)
  | 2 => ("KnockLane$Book", "tape", "LKnockLane$Tape;", true)
  | 3 => ("KnockLane$Book", "quarter", "LKnockLane$Quarter;", true)
  | 4 => ("KnockLane$Book", "act", "[I", true)
  | 5 => ("KnockLane$Book", "one", "[I", true)
  | 6 => ("KnockLane$Book", "other", "[I", true)
  | 7 => ("KnockLane$Book", "size", "I", false)
  | 8 => ("KnockLane$Book", "judged", "Z", false)
  | 9 => ("KnockLane$Book", "tickThen", "I", false)
  | _ => ("KnockLane$Book", "insideThen", "I", false)
def tyX0 : Nat → FieldType := fun k => match k with
  | 0 => .int
  | 1 => .int
  | 2 => .object "KnockLane$Tape"
  | 3 => .object "KnockLane$Quarter"
  | 4 => .array .int
  | 5 => .array .int
  | 6 => .array .int
  | 7 => .int
  | 8 => .boolean
  | 9 => .int
  | _ => .int
theorem nmX0 : ∀ a, a < 11 → ∀ b, b < 11 → a ≠ b → (TX0 a).2.1 ≠ (TX0 b).2.1 := by decide +kernel
theorem tyX0_ok : ∀ k, k < 11 → parseFieldDescriptor (TX0 k).2.2.1 = some (tyX0 k) := by decide +kernel
abbrev cX0_init : ByteArray := prog_2_method_1_code
def yX0_init : MethodName := ⟨RX0, "<init>", "(LKnockLane$Tape;LKnockLane$Quarter;)V"⟩
abbrev cX0_readAll : ByteArray := prog_2_method_2_code
def yX0_readAll : MethodName := ⟨RX0, "readAll", "()Z"⟩
abbrev cX0_readLine : ByteArray := prog_2_method_3_code
def yX0_readLine : MethodName := ⟨RX0, "readLine", "()Z"⟩
abbrev cX0_readTicks : ByteArray := prog_2_method_4_code
def yX0_readTicks : MethodName := ⟨RX0, "readTicks", "()Z"⟩
abbrev cX0_readAct : ByteArray := prog_2_method_5_code
def yX0_readAct : MethodName := ⟨RX0, "readAct", "(I)Z"⟩
abbrev cX0_addMeeting : ByteArray := prog_2_method_6_code
def yX0_addMeeting : MethodName := ⟨RX0, "addMeeting", "(II)Z"⟩
abbrev cX0_addAct : ByteArray := prog_2_method_7_code
def yX0_addAct : MethodName := ⟨RX0, "addAct", "(III)Z"⟩
abbrev cX0_add : ByteArray := prog_2_method_8_code
def yX0_add : MethodName := ⟨RX0, "add", "(III)V"⟩
abbrev cX0_live : ByteArray := prog_2_method_9_code
def yX0_live : MethodName := ⟨RX0, "live", "(LKnockLane$Scene;)V"⟩
abbrev cX0_liveLine : ByteArray := prog_2_method_10_code
def yX0_liveLine : MethodName := ⟨RX0, "liveLine", "(LKnockLane$Scene;III)I"⟩
abbrev cX0_reason : ByteArray := prog_2_method_11_code
def yX0_reason : MethodName := ⟨RX0, "reason", "(II)I"⟩
abbrev cX0_tell : ByteArray := prog_2_method_12_code
def yX0_tell : MethodName := ⟨RX0, "tell", "(I)I"⟩
def RX1 : String := "KnockLane$Chain"
def TX1 : u_T := fun k => match k with
  | 0 => ("KnockLane$Chain", "persons", "[I", true)
  | 1 => ("KnockLane$Chain", "layer", "[I", true)
  | _ => ("KnockLane$Chain", "size", "I", false)
def tyX1 : Nat → FieldType := fun k => match k with
  | 0 => .array .int
  | 1 => .array .int
  | _ => .int
theorem nmX1 : ∀ a, a < 3 → ∀ b, b < 3 → a ≠ b → (TX1 a).2.1 ≠ (TX1 b).2.1 := by decide +kernel
theorem tyX1_ok : ∀ k, k < 3 → parseFieldDescriptor (TX1 k).2.2.1 = some (tyX1 k) := by decide +kernel
abbrev cX1_init : ByteArray := prog_3_method_1_code
def yX1_init : MethodName := ⟨RX1, "<init>", "()V"⟩
abbrev cX1_find : ByteArray := prog_3_method_2_code
def yX1_find : MethodName := ⟨RX1, "find", "(LKnockLane$Scene;II)I"⟩
abbrev cX1_knownToAny : ByteArray := prog_3_method_3_code
def yX1_knownToAny : MethodName := ⟨RX1, "knownToAny", "(LKnockLane$Scene;I)I"⟩
abbrev cX1_walk : ByteArray := prog_3_method_4_code
def yX1_walk : MethodName := ⟨RX1, "walk", "(LKnockLane$Scene;II)V"⟩
abbrev cX1_personAt : ByteArray := prog_3_method_5_code
def yX1_personAt : MethodName := ⟨RX1, "personAt", "(I)I"⟩
def RX2 : String := "KnockLane$Label"
def TX2 : u_T := fun k => match k with
  | 0 => ("KnockLane$Label", "size", "I", false)
  | 1 => ("KnockLane$Label", "signs", "[B", true)
  | _ => ("KnockLane$Label", "words", "[J", true)
def tyX2 : Nat → FieldType := fun k => match k with
  | 0 => .int
  | 1 => .array .byte
  | _ => .array .long
theorem nmX2 : ∀ a, a < 3 → ∀ b, b < 3 → a ≠ b → (TX2 a).2.1 ≠ (TX2 b).2.1 := by decide +kernel
theorem tyX2_ok : ∀ k, k < 3 → parseFieldDescriptor (TX2 k).2.2.1 = some (tyX2 k) := by decide +kernel
abbrev cX2_init : ByteArray := prog_4_method_1_code
def yX2_init : MethodName := ⟨RX2, "<init>", "([J)V"⟩
abbrev cX2_write : ByteArray := prog_4_method_2_code
def yX2_write : MethodName := ⟨RX2, "write", "(LKnockLane$Scene;I)V"⟩
abbrev cX2_signAt : ByteArray := prog_4_method_3_code
def yX2_signAt : MethodName := ⟨RX2, "signAt", "(I)I"⟩
abbrev cX2_add : ByteArray := prog_4_method_4_code
def yX2_add : MethodName := ⟨RX2, "add", "(I)V"⟩
abbrev cX2_addText : ByteArray := prog_4_method_5_code
def yX2_addText : MethodName := ⟨RX2, "addText", "(Ljava/lang/String;)V"⟩
abbrev cX2_addWord : ByteArray := prog_4_method_6_code
def yX2_addWord : MethodName := ⟨RX2, "addWord", "(J)V"⟩
abbrev cX2_addDigits : ByteArray := prog_4_method_7_code
def yX2_addDigits : MethodName := ⟨RX2, "addDigits", "(I)V"⟩
abbrev cX2_addWay : ByteArray := prog_4_method_8_code
def yX2_addWay : MethodName := ⟨RX2, "addWay", "(I)V"⟩
def RX3 : String := "KnockLane$Matching"
def TX3 : u_T := fun k => match k with
  | 0 => ("KnockLane$Matching", "open", "[Z", true)
  | _ => ("KnockLane$Matching", "near", "[I", true)
def tyX3 : Nat → FieldType := fun k => match k with
  | 0 => .array .boolean
  | _ => .array .int
theorem nmX3 : ∀ a, a < 2 → ∀ b, b < 2 → a ≠ b → (TX3 a).2.1 ≠ (TX3 b).2.1 := by decide +kernel
theorem tyX3_ok : ∀ k, k < 2 → parseFieldDescriptor (TX3 k).2.2.1 = some (tyX3 k) := by decide +kernel
abbrev cX3_init : ByteArray := prog_5_method_1_code
def yX3_init : MethodName := ⟨RX3, "<init>", "()V"⟩
abbrev cX3_greatestSet : ByteArray := prog_5_method_2_code
def yX3_greatestSet : MethodName := ⟨RX3, "greatestSet", "(LKnockLane$Scene;)I"⟩
abbrev cX3_canBeOpen : ByteArray := prog_5_method_3_code
def yX3_canBeOpen : MethodName := ⟨RX3, "canBeOpen", "(I)Z"⟩
def RX4 : String := "KnockLane$Past"
def TX4 : u_T := fun k => match k with
  | 0 => ("KnockLane$Past", "scenes", "[LKnockLane$Scene;", true)
  | 1 => ("KnockLane$Past", "first", "I", false)
  | _ => ("KnockLane$Past", "size", "I", false)
def tyX4 : Nat → FieldType := fun k => match k with
  | 0 => .array (.object "KnockLane$Scene")
  | 1 => .int
  | _ => .int
theorem nmX4 : ∀ a, a < 3 → ∀ b, b < 3 → a ≠ b → (TX4 a).2.1 ≠ (TX4 b).2.1 := by decide +kernel
theorem tyX4_ok : ∀ k, k < 3 → parseFieldDescriptor (TX4 k).2.2.1 = some (tyX4 k) := by decide +kernel
abbrev cX4_init : ByteArray := prog_6_method_1_code
def yX4_init : MethodName := ⟨RX4, "<init>", "(LKnockLane$Quarter;)V"⟩
abbrev cX4_note : ByteArray := prog_6_method_2_code
def yX4_note : MethodName := ⟨RX4, "note", "(LKnockLane$Scene;)V"⟩
abbrev cX4_roomBehind : ByteArray := prog_6_method_3_code
def yX4_roomBehind : MethodName := ⟨RX4, "roomBehind", "(I)LKnockLane$Scene;"⟩
abbrev cX4_keepIfDone : ByteArray := prog_6_method_4_code
def yX4_keepIfDone : MethodName := ⟨RX4, "keepIfDone", "(I)I"⟩
abbrev cX4_keepIfAny : ByteArray := prog_6_method_5_code
def yX4_keepIfAny : MethodName := ⟨RX4, "keepIfAny", "(I)I"⟩
abbrev cX4_keep : ByteArray := prog_6_method_6_code
def yX4_keep : MethodName := ⟨RX4, "keep", "()V"⟩
abbrev cX4_bringBack : ByteArray := prog_6_method_7_code
def yX4_bringBack : MethodName := ⟨RX4, "bringBack", "(LKnockLane$Scene;)I"⟩
abbrev cX4_forget : ByteArray := prog_6_method_8_code
def yX4_forget : MethodName := ⟨RX4, "forget", "()V"⟩
def RX5 : String := "KnockLane$Quarter"
def TX5 : u_T := fun k => match k with
  | 0 => ("KnockLane$Quarter", "places", "I", false)
  | 1 => ("KnockLane$Quarter", "ear", "I", false)
  | 2 => ("KnockLane$Quarter", "stay", "I", false)
  | 3 => ("KnockLane$Quarter", "houses", "I", false)
  | 4 => ("KnockLane$Quarter", "persons", "I", false)
  | 5 => ("KnockLane$Quarter", "housePlace", "[I", true)
  | 6 => ("KnockLane$Quarter", "living", "[I", true)
  | 7 => ("KnockLane$Quarter", "houseName", "[J", true)
  | 8 => ("KnockLane$Quarter", "home", "[I", true)
  | 9 => ("KnockLane$Quarter", "stern", "[I", true)
  | _ => ("KnockLane$Quarter", "personName", "[J", true)
def tyX5 : Nat → FieldType := fun k => match k with
  | 0 => .int
  | 1 => .int
  | 2 => .int
  | 3 => .int
  | 4 => .int
  | 5 => .array .int
  | 6 => .array .int
  | 7 => .array .long
  | 8 => .array .int
  | 9 => .array .int
  | _ => .array .long
theorem nmX5 : ∀ a, a < 11 → ∀ b, b < 11 → a ≠ b → (TX5 a).2.1 ≠ (TX5 b).2.1 := by decide +kernel
theorem tyX5_ok : ∀ k, k < 11 → parseFieldDescriptor (TX5 k).2.2.1 = some (tyX5 k) := by decide +kernel
abbrev cX5_init : ByteArray := prog_7_method_1_code
def yX5_init : MethodName := ⟨RX5, "<init>", "()V"⟩
abbrev cX5_clear : ByteArray := prog_7_method_2_code
def yX5_clear : MethodName := ⟨RX5, "clear", "()V"⟩
abbrev cX5_copyFrom : ByteArray := prog_7_method_3_code
def yX5_copyFrom : MethodName := ⟨RX5, "copyFrom", "(LKnockLane$Quarter;)V"⟩
abbrev cX5_addHouse : ByteArray := prog_7_method_4_code
def yX5_addHouse : MethodName := ⟨RX5, "addHouse", "(JI)V"⟩
abbrev cX5_addPerson : ByteArray := prog_7_method_5_code
def yX5_addPerson : MethodName := ⟨RX5, "addPerson", "(JII)V"⟩
abbrev cX5_hasHouse : ByteArray := prog_7_method_6_code
def yX5_hasHouse : MethodName := ⟨RX5, "hasHouse", "(I)Z"⟩
abbrev cX5_hasPerson : ByteArray := prog_7_method_7_code
def yX5_hasPerson : MethodName := ⟨RX5, "hasPerson", "(I)Z"⟩
abbrev cX5_findHouse : ByteArray := prog_7_method_8_code
def yX5_findHouse : MethodName := ⟨RX5, "findHouse", "(J)I"⟩
abbrev cX5_findPerson : ByteArray := prog_7_method_9_code
def yX5_findPerson : MethodName := ⟨RX5, "findPerson", "(J)I"⟩
abbrev cX5_placeOf : ByteArray := prog_7_method_10_code
def yX5_placeOf : MethodName := ⟨RX5, "placeOf", "(I)I"⟩
abbrev cX5_livingIn : ByteArray := prog_7_method_11_code
def yX5_livingIn : MethodName := ⟨RX5, "livingIn", "(I)I"⟩
abbrev cX5_nameOfHouse : ByteArray := prog_7_method_12_code
def yX5_nameOfHouse : MethodName := ⟨RX5, "nameOfHouse", "(I)J"⟩
abbrev cX5_homeOf : ByteArray := prog_7_method_13_code
def yX5_homeOf : MethodName := ⟨RX5, "homeOf", "(I)I"⟩
abbrev cX5_isStern : ByteArray := prog_7_method_14_code
def yX5_isStern : MethodName := ⟨RX5, "isStern", "(I)Z"⟩
abbrev cX5_nameOfPerson : ByteArray := prog_7_method_15_code
def yX5_nameOfPerson : MethodName := ⟨RX5, "nameOfPerson", "(I)J"⟩
def RX6 : String := "KnockLane$QuarterReader"
def TX6 : u_T := fun k => match k with
  | 0 => ("KnockLane$QuarterReader", "tape", "LKnockLane$Tape;", true)
  | 1 => ("KnockLane$QuarterReader", "quarter", "LKnockLane$Quarter;", true)
  | 2 => ("KnockLane$QuarterReader", "scene", "LKnockLane$Scene;", true)
  | 3 => ("KnockLane$QuarterReader", "laneTold", "Z", false)
  | 4 => ("KnockLane$QuarterReader", "earTold", "Z", false)
  | _ => ("KnockLane$QuarterReader", "stayTold", "Z", false)
def tyX6 : Nat → FieldType := fun k => match k with
  | 0 => .object "KnockLane$Tape"
  | 1 => .object "KnockLane$Quarter"
  | 2 => .object "KnockLane$Scene"
  | 3 => .boolean
  | 4 => .boolean
  | _ => .boolean
theorem nmX6 : ∀ a, a < 6 → ∀ b, b < 6 → a ≠ b → (TX6 a).2.1 ≠ (TX6 b).2.1 := by decide +kernel
theorem tyX6_ok : ∀ k, k < 6 → parseFieldDescriptor (TX6 k).2.2.1 = some (tyX6 k) := by decide +kernel
abbrev cX6_init : ByteArray := prog_8_method_1_code
def yX6_init : MethodName := ⟨RX6, "<init>", "(LKnockLane$Tape;LKnockLane$Street;)V"⟩
abbrev cX6_readAll : ByteArray := prog_8_method_2_code
def yX6_readAll : MethodName := ⟨RX6, "readAll", "()I"⟩
abbrev cX6_readLine : ByteArray := prog_8_method_3_code
def yX6_readLine : MethodName := ⟨RX6, "readLine", "()Z"⟩
abbrev cX6_refuse : ByteArray := prog_8_method_4_code
def yX6_refuse : MethodName := ⟨RX6, "refuse", "(I)Z"⟩
abbrev cX6_readLane : ByteArray := prog_8_method_5_code
def yX6_readLane : MethodName := ⟨RX6, "readLane", "()Z"⟩
abbrev cX6_readEar : ByteArray := prog_8_method_6_code
def yX6_readEar : MethodName := ⟨RX6, "readEar", "()Z"⟩
abbrev cX6_readStay : ByteArray := prog_8_method_7_code
def yX6_readStay : MethodName := ⟨RX6, "readStay", "()Z"⟩
abbrev cX6_readHouse : ByteArray := prog_8_method_8_code
def yX6_readHouse : MethodName := ⟨RX6, "readHouse", "()Z"⟩
abbrev cX6_readPerson : ByteArray := prog_8_method_9_code
def yX6_readPerson : MethodName := ⟨RX6, "readPerson", "()Z"⟩
abbrev cX6_readKnows : ByteArray := prog_8_method_10_code
def yX6_readKnows : MethodName := ⟨RX6, "readKnows", "()Z"⟩
abbrev cX6_readCalls : ByteArray := prog_8_method_11_code
def yX6_readCalls : MethodName := ⟨RX6, "readCalls", "()Z"⟩
def RX7 : String := "KnockLane$Saying"
def TX7 : u_T := fun k => match k with
  | 0 => ("KnockLane$Saying", "ones", "I", false)
  | 1 => ("KnockLane$Saying", "size", "I", false)
  | 2 => ("KnockLane$Saying", "act", "[I", true)
  | 3 => ("KnockLane$Saying", "one", "[I", true)
  | 4 => ("KnockLane$Saying", "other", "[I", true)
  | 5 => ("KnockLane$Saying", "stack", "[I", true)
  | _ => ("KnockLane$Saying", "top", "I", false)
def tyX7 : Nat → FieldType := fun k => match k with
  | 0 => .int
  | 1 => .int
  | 2 => .array .int
  | 3 => .array .int
  | 4 => .array .int
  | 5 => .array .int
  | _ => .int
theorem nmX7 : ∀ a, a < 7 → ∀ b, b < 7 → a ≠ b → (TX7 a).2.1 ≠ (TX7 b).2.1 := by decide +kernel
theorem tyX7_ok : ∀ k, k < 7 → parseFieldDescriptor (TX7 k).2.2.1 = some (tyX7 k) := by decide +kernel
abbrev cX7_init : ByteArray := prog_9_method_1_code
def yX7_init : MethodName := ⟨RX7, "<init>", "()V"⟩
abbrev cX7_clear : ByteArray := prog_9_method_2_code
def yX7_clear : MethodName := ⟨RX7, "clear", "()V"⟩
abbrev cX7_copyFrom : ByteArray := prog_9_method_3_code
def yX7_copyFrom : MethodName := ⟨RX7, "copyFrom", "(LKnockLane$Saying;)V"⟩
abbrev cX7_readAll : ByteArray := prog_9_method_4_code
def yX7_readAll : MethodName := ⟨RX7, "readAll", "(LKnockLane$Tape;LKnockLane$Quarter;)Z"⟩
abbrev cX7_refuse : ByteArray := prog_9_method_5_code
def yX7_refuse : MethodName := ⟨RX7, "refuse", "(LKnockLane$Tape;I)Z"⟩
abbrev cX7_readCond : ByteArray := prog_9_method_6_code
def yX7_readCond : MethodName := ⟨RX7, "readCond", "(LKnockLane$Tape;LKnockLane$Quarter;I)Z"⟩
abbrev cX7_readOne : ByteArray := prog_9_method_7_code
def yX7_readOne : MethodName := ⟨RX7, "readOne", "(LKnockLane$Tape;LKnockLane$Quarter;I)Z"⟩
abbrev cX7_canBeginOne : ByteArray := prog_9_method_8_code
def yX7_canBeginOne : MethodName := ⟨RX7, "canBeginOne", "(I)Z"⟩
abbrev cX7_readBracket : ByteArray := prog_9_method_9_code
def yX7_readBracket : MethodName := ⟨RX7, "readBracket", "(LKnockLane$Tape;LKnockLane$Quarter;I)Z"⟩
abbrev cX7_readNot : ByteArray := prog_9_method_10_code
def yX7_readNot : MethodName := ⟨RX7, "readNot", "(LKnockLane$Tape;LKnockLane$Quarter;I)Z"⟩
abbrev cX7_readPlainOne : ByteArray := prog_9_method_11_code
def yX7_readPlainOne : MethodName := ⟨RX7, "readPlainOne", "(LKnockLane$Tape;LKnockLane$Quarter;I)Z"⟩
abbrev cX7_add : ByteArray := prog_9_method_12_code
def yX7_add : MethodName := ⟨RX7, "add", "(III)V"⟩
abbrev cX7_trueOf : ByteArray := prog_9_method_13_code
def yX7_trueOf : MethodName := ⟨RX7, "trueOf", "(LKnockLane$Scene;)I"⟩
abbrev cX7_push : ByteArray := prog_9_method_14_code
def yX7_push : MethodName := ⟨RX7, "push", "(I)V"⟩
abbrev cX7_pop : ByteArray := prog_9_method_15_code
def yX7_pop : MethodName := ⟨RX7, "pop", "()I"⟩
abbrev cX7_personsOf : ByteArray := prog_9_method_16_code
def yX7_personsOf : MethodName := ⟨RX7, "personsOf", "(LKnockLane$Scene;III)I"⟩
abbrev cX7_isTrueOf : ByteArray := prog_9_method_17_code
def yX7_isTrueOf : MethodName := ⟨RX7, "isTrueOf", "(LKnockLane$Scene;IIII)Z"⟩
abbrev cX7_compares : ByteArray := prog_9_method_18_code
def yX7_compares : MethodName := ⟨RX7, "compares", "(III)Z"⟩
def RX8 : String := "KnockLane$Scene"
def TX8 : u_T := fun k => match k with
  | 0 => ("KnockLane$Scene", "quarter", "LKnockLane$Quarter;", true)
  | 1 => ("KnockLane$Scene", "tick", "I", false)
  | 2 => ("KnockLane$Scene", "shut", "I", false)
  | 3 => ("KnockLane$Scene", "callCount", "I", false)
  | 4 => ("KnockLane$Scene", "callPerson", "[I", true)
  | 5 => ("KnockLane$Scene", "callHouse", "[I", true)
  | 6 => ("KnockLane$Scene", "how", "[I", true)
  | 7 => ("KnockLane$Scene", "place", "[I", true)
  | 8 => ("KnockLane$Scene", "way", "[I", true)
  | 9 => ("KnockLane$Scene", "door", "[I", true)
  | 10 => ("KnockLane$Scene", "left", "[I", true)
  | 11 => ("KnockLane$Scene", "knows", "[I", true)
  | 12 => ("KnockLane$Scene", "waited", "[I", true)
  | 13 => ("KnockLane$Scene", "opened", "[I", true)
  | _ => ("KnockLane$Scene", "drawn", "I", false)
def tyX8 : Nat → FieldType := fun k => match k with
  | 0 => .object "KnockLane$Quarter"
  | 1 => .int
  | 2 => .int
  | 3 => .int
  | 4 => .array .int
  | 5 => .array .int
  | 6 => .array .int
  | 7 => .array .int
  | 8 => .array .int
  | 9 => .array .int
  | 10 => .array .int
  | 11 => .array .int
  | 12 => .array .int
  | 13 => .array .int
  | _ => .int
theorem nmX8 : ∀ a, a < 15 → ∀ b, b < 15 → a ≠ b → (TX8 a).2.1 ≠ (TX8 b).2.1 := by decide +kernel
theorem tyX8_ok : ∀ k, k < 15 → parseFieldDescriptor (TX8 k).2.2.1 = some (tyX8 k) := by decide +kernel
abbrev cX8_init : ByteArray := prog_10_method_1_code
def yX8_init : MethodName := ⟨RX8, "<init>", "(LKnockLane$Quarter;)V"⟩
abbrev cX8_clear : ByteArray := prog_10_method_2_code
def yX8_clear : MethodName := ⟨RX8, "clear", "()V"⟩
abbrev cX8_copyFrom : ByteArray := prog_10_method_3_code
def yX8_copyFrom : MethodName := ⟨RX8, "copyFrom", "(LKnockLane$Scene;)V"⟩
abbrev cX8_addPerson : ByteArray := prog_10_method_4_code
def yX8_addPerson : MethodName := ⟨RX8, "addPerson", "(III)V"⟩
abbrev cX8_detail : ByteArray := prog_10_method_5_code
def yX8_detail : MethodName := ⟨RX8, "detail", "(II)I"⟩
abbrev cX8_isInLane : ByteArray := prog_10_method_6_code
def yX8_isInLane : MethodName := ⟨RX8, "isInLane", "(I)Z"⟩
abbrev cX8_isKnocking : ByteArray := prog_10_method_7_code
def yX8_isKnocking : MethodName := ⟨RX8, "isKnocking", "(I)Z"⟩
abbrev cX8_isInside : ByteArray := prog_10_method_8_code
def yX8_isInside : MethodName := ⟨RX8, "isInside", "(I)Z"⟩
abbrev cX8_areTogether : ByteArray := prog_10_method_9_code
def yX8_areTogether : MethodName := ⟨RX8, "areTogether", "(II)Z"⟩
abbrev cX8_doesKnow : ByteArray := prog_10_method_10_code
def yX8_doesKnow : MethodName := ⟨RX8, "doesKnow", "(II)Z"⟩
abbrev cX8_knownTo : ByteArray := prog_10_method_11_code
def yX8_knownTo : MethodName := ⟨RX8, "knownTo", "(I)I"⟩
abbrev cX8_strangersOf : ByteArray := prog_10_method_12_code
def yX8_strangersOf : MethodName := ⟨RX8, "strangersOf", "(I)I"⟩
abbrev cX8_housesWithStrangers : ByteArray := prog_10_method_13_code
def yX8_housesWithStrangers : MethodName := ⟨RX8, "housesWithStrangers", "()I"⟩
abbrev cX8_thoseWhoAre : ByteArray := prog_10_method_14_code
def yX8_thoseWhoAre : MethodName := ⟨RX8, "thoseWhoAre", "(I)I"⟩
abbrev cX8_thoseAt : ByteArray := prog_10_method_15_code
def yX8_thoseAt : MethodName := ⟨RX8, "thoseAt", "(II)I"⟩
abbrev cX8_housesToCallAt : ByteArray := prog_10_method_16_code
def yX8_housesToCallAt : MethodName := ⟨RX8, "housesToCallAt", "(I)I"⟩
abbrev cX8_openedInAll : ByteArray := prog_10_method_17_code
def yX8_openedInAll : MethodName := ⟨RX8, "openedInAll", "()I"⟩
abbrev cX8_knownInAll : ByteArray := prog_10_method_18_code
def yX8_knownInAll : MethodName := ⟨RX8, "knownInAll", "()I"⟩
abbrev cX8_whoOpenedMost : ByteArray := prog_10_method_19_code
def yX8_whoOpenedMost : MethodName := ⟨RX8, "whoOpenedMost", "()I"⟩
abbrev cX8_tryKnock : ByteArray := prog_10_method_20_code
def yX8_tryKnock : MethodName := ⟨RX8, "tryKnock", "(II)I"⟩
abbrev cX8_tryGo : ByteArray := prog_10_method_21_code
def yX8_tryGo : MethodName := ⟨RX8, "tryGo", "(II)I"⟩
abbrev cX8_tryQuit : ByteArray := prog_10_method_22_code
def yX8_tryQuit : MethodName := ⟨RX8, "tryQuit", "(I)I"⟩
abbrev cX8_tryMeet : ByteArray := prog_10_method_23_code
def yX8_tryMeet : MethodName := ⟨RX8, "tryMeet", "(II)I"⟩
abbrev cX8_tryCall : ByteArray := prog_10_method_24_code
def yX8_tryCall : MethodName := ⟨RX8, "tryCall", "(II)I"⟩
abbrev cX8_putInLane : ByteArray := prog_10_method_25_code
def yX8_putInLane : MethodName := ⟨RX8, "putInLane", "(I)V"⟩
abbrev cX8_makeKnown : ByteArray := prog_10_method_26_code
def yX8_makeKnown : MethodName := ⟨RX8, "makeKnown", "(II)V"⟩
abbrev cX8_letTicksGo : ByteArray := prog_10_method_27_code
def yX8_letTicksGo : MethodName := ⟨RX8, "letTicksGo", "(I)I"⟩
abbrev cX8_letDrawnTicksGo : ByteArray := prog_10_method_28_code
def yX8_letDrawnTicksGo : MethodName := ⟨RX8, "letDrawnTicksGo", "(II)I"⟩
abbrev cX8_actByDraw : ByteArray := prog_10_method_29_code
def yX8_actByDraw : MethodName := ⟨RX8, "actByDraw", "(I)V"⟩
abbrev cX8_draw : ByteArray := prog_10_method_30_code
def yX8_draw : MethodName := ⟨RX8, "draw", "(I)I"⟩
abbrev cX8_letTickGo : ByteArray := prog_10_method_31_code
def yX8_letTickGo : MethodName := ⟨RX8, "letTickGo", "()V"⟩
abbrev cX8_stayOn : ByteArray := prog_10_method_32_code
def yX8_stayOn : MethodName := ⟨RX8, "stayOn", "(I)V"⟩
abbrev cX8_walkOn : ByteArray := prog_10_method_33_code
def yX8_walkOn : MethodName := ⟨RX8, "walkOn", "(I)V"⟩
abbrev cX8_callAtDoor : ByteArray := prog_10_method_34_code
def yX8_callAtDoor : MethodName := ⟨RX8, "callAtDoor", "(I)V"⟩
abbrev cX8_dropCall : ByteArray := prog_10_method_35_code
def yX8_dropCall : MethodName := ⟨RX8, "dropCall", "(I)V"⟩
abbrev cX8_openDoor : ByteArray := prog_10_method_36_code
def yX8_openDoor : MethodName := ⟨RX8, "openDoor", "(II)V"⟩
abbrev cX8_answererOf : ByteArray := prog_10_method_37_code
def yX8_answererOf : MethodName := ⟨RX8, "answererOf", "(II)I"⟩
abbrev cX8_thoseWhoCouldAnswer : ByteArray := prog_10_method_38_code
def yX8_thoseWhoCouldAnswer : MethodName := ⟨RX8, "thoseWhoCouldAnswer", "(I)I"⟩
abbrev cX8_whomJustTheseKnow : ByteArray := prog_10_method_39_code
def yX8_whomJustTheseKnow : MethodName := ⟨RX8, "whomJustTheseKnow", "(II)I"⟩
abbrev cX8_bestToAsk : ByteArray := prog_10_method_40_code
def yX8_bestToAsk : MethodName := ⟨RX8, "bestToAsk", "(I)I"⟩
def RX9 : String := "KnockLane$Street"
def TX9 : u_T := fun k => match k with
  | 0 => ("KnockLane$Street", "quarter", "LKnockLane$Quarter;", true)
  | 1 => ("KnockLane$Street", "scene", "LKnockLane$Scene;", true)
  | 2 => ("KnockLane$Street", "saying", "LKnockLane$Saying;", true)
  | _ => ("KnockLane$Street", "isKept", "Z", false)
def tyX9 : Nat → FieldType := fun k => match k with
  | 0 => .object "KnockLane$Quarter"
  | 1 => .object "KnockLane$Scene"
  | 2 => .object "KnockLane$Saying"
  | _ => .boolean
theorem nmX9 : ∀ a, a < 4 → ∀ b, b < 4 → a ≠ b → (TX9 a).2.1 ≠ (TX9 b).2.1 := by decide +kernel
theorem tyX9_ok : ∀ k, k < 4 → parseFieldDescriptor (TX9 k).2.2.1 = some (tyX9 k) := by decide +kernel
abbrev cX9_init : ByteArray := prog_11_method_1_code
def yX9_init : MethodName := ⟨RX9, "<init>", "()V"⟩
abbrev cX9_copyFrom : ByteArray := prog_11_method_2_code
def yX9_copyFrom : MethodName := ⟨RX9, "copyFrom", "(LKnockLane$Street;)V"⟩
def RX10 : String := "KnockLane$Tape"
def TX10 : u_T := fun k => match k with
  | 0 => ("KnockLane$Tape", "words", "[J", true)
  | 1 => ("KnockLane$Tape", "size", "I", false)
  | 2 => ("KnockLane$Tape", "faultKind", "I", false)
  | 3 => ("KnockLane$Tape", "faultPlace", "I", false)
  | 4 => ("KnockLane$Tape", "kind", "I", false)
  | 5 => ("KnockLane$Tape", "number", "I", false)
  | 6 => ("KnockLane$Tape", "name", "J", false)
  | 7 => ("KnockLane$Tape", "bytes", "[B", true)
  | 8 => ("KnockLane$Tape", "mostBytes", "I", false)
  | 9 => ("KnockLane$Tape", "next", "I", false)
  | _ => ("KnockLane$Tape", "begin", "I", false)
def tyX10 : Nat → FieldType := fun k => match k with
  | 0 => .array .long
  | 1 => .int
  | 2 => .int
  | 3 => .int
  | 4 => .int
  | 5 => .int
  | 6 => .long
  | 7 => .array .byte
  | 8 => .int
  | 9 => .int
  | _ => .int
theorem nmX10 : ∀ a, a < 11 → ∀ b, b < 11 → a ≠ b → (TX10 a).2.1 ≠ (TX10 b).2.1 := by decide +kernel
theorem tyX10_ok : ∀ k, k < 11 → parseFieldDescriptor (TX10 k).2.2.1 = some (tyX10 k) := by decide +kernel
abbrev cX10_init : ByteArray := prog_12_method_1_code
def yX10_init : MethodName := ⟨RX10, "<init>", "()V"⟩
abbrev cX10_codesOfWords : ByteArray := prog_12_method_2_code
def yX10_codesOfWords : MethodName := ⟨RX10, "codesOfWords", "()[J"⟩
abbrev cX10_fillCodes : ByteArray := prog_12_method_3_code
def yX10_fillCodes : MethodName := ⟨RX10, "fillCodes", "([JILjava/lang/String;)I"⟩
abbrev cX10_addFour : ByteArray := prog_12_method_4_code
def yX10_addFour : MethodName := ⟨RX10, "addFour", "(I)V"⟩
abbrev cX10_byteOf : ByteArray := prog_12_method_5_code
def yX10_byteOf : MethodName := ⟨RX10, "byteOf", "(I)I"⟩
abbrev cX10_startReading : ByteArray := prog_12_method_6_code
def yX10_startReading : MethodName := ⟨RX10, "startReading", "(I)V"⟩
abbrev cX10_take : ByteArray := prog_12_method_7_code
def yX10_take : MethodName := ⟨RX10, "take", "()V"⟩
abbrev cX10_takeRun : ByteArray := prog_12_method_8_code
def yX10_takeRun : MethodName := ⟨RX10, "takeRun", "()V"⟩
abbrev cX10_nameWord : ByteArray := prog_12_method_9_code
def yX10_nameWord : MethodName := ⟨RX10, "nameWord", "()V"⟩
abbrev cX10_isBlank : ByteArray := prog_12_method_10_code
def yX10_isBlank : MethodName := ⟨RX10, "isBlank", "(I)Z"⟩
abbrev cX10_isSign : ByteArray := prog_12_method_11_code
def yX10_isSign : MethodName := ⟨RX10, "isSign", "(I)Z"⟩
abbrev cX10_refuse : ByteArray := prog_12_method_12_code
def yX10_refuse : MethodName := ⟨RX10, "refuse", "(I)I"⟩
abbrev cX10_isEnd : ByteArray := prog_12_method_13_code
def yX10_isEnd : MethodName := ⟨RX10, "isEnd", "()Z"⟩
abbrev cX10_isWord : ByteArray := prog_12_method_14_code
def yX10_isWord : MethodName := ⟨RX10, "isWord", "(I)Z"⟩
abbrev cX10_isSignOf : ByteArray := prog_12_method_15_code
def yX10_isSignOf : MethodName := ⟨RX10, "isSignOf", "(C)Z"⟩
abbrev cX10_takeLineEnd : ByteArray := prog_12_method_16_code
def yX10_takeLineEnd : MethodName := ⟨RX10, "takeLineEnd", "()Z"⟩
abbrev cX10_takeCompare : ByteArray := prog_12_method_17_code
def yX10_takeCompare : MethodName := ⟨RX10, "takeCompare", "()I"⟩
abbrev cX10_takeNumber : ByteArray := prog_12_method_18_code
def yX10_takeNumber : MethodName := ⟨RX10, "takeNumber", "(II)I"⟩
abbrev cX10_takeOneOf : ByteArray := prog_12_method_19_code
def yX10_takeOneOf : MethodName := ⟨RX10, "takeOneOf", "(II)I"⟩
abbrev cX10_takeNewName : ByteArray := prog_12_method_20_code
def yX10_takeNewName : MethodName := ⟨RX10, "takeNewName", "(LKnockLane$Quarter;)J"⟩
abbrev cX10_takeHouse : ByteArray := prog_12_method_21_code
def yX10_takeHouse : MethodName := ⟨RX10, "takeHouse", "(LKnockLane$Quarter;)I"⟩
abbrev cX10_houseHere : ByteArray := prog_12_method_22_code
def yX10_houseHere : MethodName := ⟨RX10, "houseHere", "(LKnockLane$Quarter;)I"⟩
abbrev cX10_takePerson : ByteArray := prog_12_method_23_code
def yX10_takePerson : MethodName := ⟨RX10, "takePerson", "(LKnockLane$Quarter;)I"⟩
abbrev cX10_personHere : ByteArray := prog_12_method_24_code
def yX10_personHere : MethodName := ⟨RX10, "personHere", "(LKnockLane$Quarter;)I"⟩
def RX11 : String := "KnockLane"
def TX11 : u_T := fun k => match k with
  | 0 => ("KnockLane", "tape", "LKnockLane$Tape;", true)
  | 1 => ("KnockLane", "here", "LKnockLane$Street;", true)
  | 2 => ("KnockLane", "draft", "LKnockLane$Street;", true)
  | 3 => ("KnockLane", "firstImage", "LKnockLane$Street;", true)
  | 4 => ("KnockLane", "secondImage", "LKnockLane$Street;", true)
  | 5 => ("KnockLane", "past", "LKnockLane$Past;", true)
  | 6 => ("KnockLane", "ahead", "LKnockLane$Scene;", true)
  | 7 => ("KnockLane", "quarterReader", "LKnockLane$QuarterReader;", true)
  | 8 => ("KnockLane", "bookNow", "LKnockLane$Book;", true)
  | 9 => ("KnockLane", "matching", "LKnockLane$Matching;", true)
  | 10 => ("KnockLane", "lastChain", "LKnockLane$Chain;", true)
  | 11 => ("KnockLane", "label", "LKnockLane$Label;", true)
  | 12 => ("KnockLane", "lastFault", "I", false)
  | 13 => ("KnockLane", "lastThose", "I", false)
  | _ => ("KnockLane", "lastAsk", "I", false)
def tyX11 : Nat → FieldType := fun k => match k with
  | 0 => .object "KnockLane$Tape"
  | 1 => .object "KnockLane$Street"
  | 2 => .object "KnockLane$Street"
  | 3 => .object "KnockLane$Street"
  | 4 => .object "KnockLane$Street"
  | 5 => .object "KnockLane$Past"
  | 6 => .object "KnockLane$Scene"
  | 7 => .object "KnockLane$QuarterReader"
  | 8 => .object "KnockLane$Book"
  | 9 => .object "KnockLane$Matching"
  | 10 => .object "KnockLane$Chain"
  | 11 => .object "KnockLane$Label"
  | 12 => .int
  | 13 => .int
  | _ => .int
theorem nmX11 : ∀ a, a < 15 → ∀ b, b < 15 → a ≠ b → (TX11 a).2.1 ≠ (TX11 b).2.1 := by decide +kernel
theorem tyX11_ok : ∀ k, k < 15 → parseFieldDescriptor (TX11 k).2.2.1 = some (tyX11 k) := by decide +kernel
abbrev cX11_init : ByteArray := prog_1_method_1_code
def yX11_init : MethodName := ⟨RX11, "<init>", "()V"⟩
abbrev cX11_feed : ByteArray := prog_1_method_2_code
def yX11_feed : MethodName := ⟨RX11, "feed", "(IIIII)I"⟩
abbrev cX11_end : ByteArray := prog_1_method_3_code
def yX11_end : MethodName := ⟨RX11, "end", "(I)Z"⟩
abbrev cX11_quarter : ByteArray := prog_1_method_4_code
def yX11_quarter : MethodName := ⟨RX11, "quarter", "()I"⟩
abbrev cX11_fault : ByteArray := prog_1_method_5_code
def yX11_fault : MethodName := ⟨RX11, "fault", "()I"⟩
abbrev cX11_house : ByteArray := prog_1_method_6_code
def yX11_house : MethodName := ⟨RX11, "house", "(II)I"⟩
abbrev cX11_person : ByteArray := prog_1_method_7_code
def yX11_person : MethodName := ⟨RX11, "person", "(II)I"⟩
abbrev cX11_call : ByteArray := prog_1_method_8_code
def yX11_call : MethodName := ⟨RX11, "call", "(II)I"⟩
abbrev cX11_now : ByteArray := prog_1_method_9_code
def yX11_now : MethodName := ⟨RX11, "now", "(I)I"⟩
abbrev cX11_knock : ByteArray := prog_1_method_10_code
def yX11_knock : MethodName := ⟨RX11, "knock", "(II)I"⟩
abbrev cX11_go : ByteArray := prog_1_method_11_code
def yX11_go : MethodName := ⟨RX11, "go", "(II)I"⟩
abbrev cX11_quit : ByteArray := prog_1_method_12_code
def yX11_quit : MethodName := ⟨RX11, "quit", "(I)I"⟩
abbrev cX11_meets : ByteArray := prog_1_method_13_code
def yX11_meets : MethodName := ⟨RX11, "meets", "(II)I"⟩
abbrev cX11_calls : ByteArray := prog_1_method_14_code
def yX11_calls : MethodName := ⟨RX11, "calls", "(II)I"⟩
abbrev cX11_ticks : ByteArray := prog_1_method_15_code
def yX11_ticks : MethodName := ⟨RX11, "ticks", "(I)I"⟩
abbrev cX11_undo : ByteArray := prog_1_method_16_code
def yX11_undo : MethodName := ⟨RX11, "undo", "()I"⟩
abbrev cX11_answer : ByteArray := prog_1_method_17_code
def yX11_answer : MethodName := ⟨RX11, "answer", "(I)I"⟩
abbrev cX11_most : ByteArray := prog_1_method_18_code
def yX11_most : MethodName := ⟨RX11, "most", "()I"⟩
abbrev cX11_those : ByteArray := prog_1_method_19_code
def yX11_those : MethodName := ⟨RX11, "those", "()I"⟩
abbrev cX11_chain : ByteArray := prog_1_method_20_code
def yX11_chain : MethodName := ⟨RX11, "chain", "(II)I"⟩
abbrev cX11_chainAt : ByteArray := prog_1_method_21_code
def yX11_chainAt : MethodName := ⟨RX11, "chainAt", "(I)I"⟩
abbrev cX11_who : ByteArray := prog_1_method_22_code
def yX11_who : MethodName := ⟨RX11, "who", "()I"⟩
abbrev cX11_ask : ByteArray := prog_1_method_23_code
def yX11_ask : MethodName := ⟨RX11, "ask", "()I"⟩
abbrev cX11_opens : ByteArray := prog_1_method_24_code
def yX11_opens : MethodName := ⟨RX11, "opens", "(I)I"⟩
abbrev cX11_known : ByteArray := prog_1_method_25_code
def yX11_known : MethodName := ⟨RX11, "known", "()I"⟩
abbrev cX11_meet : ByteArray := prog_1_method_26_code
def yX11_meet : MethodName := ⟨RX11, "meet", "(II)I"⟩
abbrev cX11_busiest : ByteArray := prog_1_method_27_code
def yX11_busiest : MethodName := ⟨RX11, "busiest", "()I"⟩
abbrev cX11_mean : ByteArray := prog_1_method_28_code
def yX11_mean : MethodName := ⟨RX11, "mean", "(I)I"⟩
abbrev cX11_tag : ByteArray := prog_1_method_29_code
def yX11_tag : MethodName := ⟨RX11, "tag", "(I)I"⟩
abbrev cX11_byteAt : ByteArray := prog_1_method_30_code
def yX11_byteAt : MethodName := ⟨RX11, "byteAt", "(I)I"⟩
abbrev cX11_drawn : ByteArray := prog_1_method_31_code
def yX11_drawn : MethodName := ⟨RX11, "drawn", "(II)I"⟩
abbrev cX11_odds : ByteArray := prog_1_method_32_code
def yX11_odds : MethodName := ⟨RX11, "odds", "(III)I"⟩
abbrev cX11_book : ByteArray := prog_1_method_33_code
def yX11_book : MethodName := ⟨RX11, "book", "(I)I"⟩
abbrev cX11_told : ByteArray := prog_1_method_34_code
def yX11_told : MethodName := ⟨RX11, "told", "(I)I"⟩
abbrev cX11_sentence : ByteArray := prog_1_method_35_code
def yX11_sentence : MethodName := ⟨RX11, "sentence", "()I"⟩
abbrev cX11_said : ByteArray := prog_1_method_36_code
def yX11_said : MethodName := ⟨RX11, "said", "(I)I"⟩
abbrev cX11_image : ByteArray := prog_1_method_37_code
def yX11_image : MethodName := ⟨RX11, "image", "(I)Z"⟩
abbrev cX11_restore : ByteArray := prog_1_method_38_code
def yX11_restore : MethodName := ⟨RX11, "restore", "(I)Z"⟩
abbrev cX11_count : ByteArray := prog_1_method_39_code
def yX11_count : MethodName := ⟨RX11, "count", "(I)I"⟩
abbrev cX11_imageOf : ByteArray := prog_1_method_40_code
def yX11_imageOf : MethodName := ⟨RX11, "imageOf", "(I)LKnockLane$Street;"⟩
abbrev cX11_finishReading : ByteArray := prog_1_method_41_code
def yX11_finishReading : MethodName := ⟨RX11, "finishReading", "()V"⟩
abbrev cX11_whoByPairs : ByteArray := prog_1_method_42_code
def yX11_whoByPairs : MethodName := ⟨RX11, "whoByPairs", "()I"⟩
abbrev cX11_commonDivisor : ByteArray := prog_1_method_43_code
def yX11_commonDivisor : MethodName := ⟨RX11, "commonDivisor", "(II)I"⟩
abbrev cX11_bitInOrder : ByteArray := prog_1_method_44_code
def yX11_bitInOrder : MethodName := ⟨RX11, "bitInOrder", "(II)I"⟩
abbrev cX11_hasBit : ByteArray := prog_1_method_45_code
def yX11_hasBit : MethodName := ⟨RX11, "hasBit", "(II)Z"⟩
def RX12 : String := "KnockLaneModel"
def TX12 : u_T := fun k => match k with
  | 0 => ("KnockLaneModel", "thrown", "I", false)
  | 1 => ("KnockLaneModel", "tape", "[B", true)
  | 2 => ("KnockLaneModel", "length", "I", false)
  | 3 => ("KnockLaneModel", "size", "I", false)
  | 4 => ("KnockLaneModel", "p", "I", false)
  | 5 => ("KnockLaneModel", "limit", "I", false)
  | 6 => ("KnockLaneModel", "s", "[I", true)
  | 7 => ("KnockLaneModel", "h", "[I", true)
  | 8 => ("KnockLaneModel", "read", "[I", true)
  | 9 => ("KnockLaneModel", "names", "[J", true)
  | 10 => ("KnockLaneModel", "reserved", "[J", true)
  | 11 => ("KnockLaneModel", "token", "I", false)
  | 12 => ("KnockLaneModel", "at", "I", false)
  | 13 => ("KnockLaneModel", "span", "I", false)
  | 14 => ("KnockLaneModel", "number", "I", false)
  | 15 => ("KnockLaneModel", "fault", "I", false)
  | 16 => ("KnockLaneModel", "faultAt", "I", false)
  | 17 => ("KnockLaneModel", "word", "J", false)
  | 18 => ("KnockLaneModel", "got", "I", false)
  | 19 => ("KnockLaneModel", "lines", "I", false)
  | 20 => ("KnockLaneModel", "onces", "I", false)
  | 21 => ("KnockLaneModel", "undone", "[I", true)
  | 22 => ("KnockLaneModel", "before", "[I", true)
  | 23 => ("KnockLaneModel", "undoMany", "I", false)
  | 24 => ("KnockLaneModel", "mostSet", "I", false)
  | 25 => ("KnockLaneModel", "hasMost", "Z", false)
  | 26 => ("KnockLaneModel", "can", "[Z", true)
  | 27 => ("KnockLaneModel", "off", "[I", true)
  | 28 => ("KnockLaneModel", "chainRow", "[I", true)
  | 29 => ("KnockLaneModel", "chainMany", "I", false)
  | 30 => ("KnockLaneModel", "askOne", "I", false)
  | 31 => ("KnockLaneModel", "hasWho", "Z", false)
  | 32 => ("KnockLaneModel", "text", "[B", true)
  | 33 => ("KnockLaneModel", "textMany", "I", false)
  | 34 => ("KnockLaneModel", "seed", "I", false)
  | 35 => ("KnockLaneModel", "toldMany", "I", false)
  | 36 => ("KnockLaneModel", "toldAt", "[I", true)
  | 37 => ("KnockLaneModel", "hasTold", "Z", false)
  | 38 => ("KnockLaneModel", "stack", "[I", true)
  | 39 => ("KnockLaneModel", "codes", "I", false)
  | 40 => ("KnockLaneModel", "ones", "I", false)
  | 41 => ("KnockLaneModel", "top", "I", false)
  | 42 => ("KnockLaneModel", "deep", "I", false)
  | 43 => ("KnockLaneModel", "isWhole", "Z", false)
  | 44 => ("KnockLaneModel", "truths", "[Z", true)
  | 45 => ("KnockLaneModel", "imaged", "[I", true)
  | 46 => ("KnockLaneModel", "namesKept", "[J", true)
  | _ => ("KnockLaneModel", "areKept", "[Z", true)
def tyX12 : Nat → FieldType := fun k => match k with
  | 0 => .int
  | 1 => .array .byte
  | 2 => .int
  | 3 => .int
  | 4 => .int
  | 5 => .int
  | 6 => .array .int
  | 7 => .array .int
  | 8 => .array .int
  | 9 => .array .long
  | 10 => .array .long
  | 11 => .int
  | 12 => .int
  | 13 => .int
  | 14 => .int
  | 15 => .int
  | 16 => .int
  | 17 => .long
  | 18 => .int
  | 19 => .int
  | 20 => .int
  | 21 => .array .int
  | 22 => .array .int
  | 23 => .int
  | 24 => .int
  | 25 => .boolean
  | 26 => .array .boolean
  | 27 => .array .int
  | 28 => .array .int
  | 29 => .int
  | 30 => .int
  | 31 => .boolean
  | 32 => .array .byte
  | 33 => .int
  | 34 => .int
  | 35 => .int
  | 36 => .array .int
  | 37 => .boolean
  | 38 => .array .int
  | 39 => .int
  | 40 => .int
  | 41 => .int
  | 42 => .int
  | 43 => .boolean
  | 44 => .array .boolean
  | 45 => .array .int
  | 46 => .array .long
  | _ => .array .boolean
theorem nmX12 : ∀ a, a < 48 → ∀ b, b < 48 → a ≠ b → (TX12 a).2.1 ≠ (TX12 b).2.1 := by decide +kernel
theorem tyX12_ok : ∀ k, k < 48 → parseFieldDescriptor (TX12 k).2.2.1 = some (tyX12 k) := by decide +kernel
abbrev cX12_thrown : ByteArray := prog_14_method_1_code
def yX12_thrown : MethodName := ⟨RX12, "thrown", "()I"⟩
abbrev cX12_throwsIf : ByteArray := prog_14_method_2_code
def yX12_throwsIf : MethodName := ⟨RX12, "throwsIf", "(Z)Z"⟩
abbrev cX12_feed : ByteArray := prog_14_method_3_code
def yX12_feed : MethodName := ⟨RX12, "feed", "(IIIII)I"⟩
abbrev cX12_four : ByteArray := prog_14_method_4_code
def yX12_four : MethodName := ⟨RX12, "four", "(I)V"⟩
abbrev cX12_end : ByteArray := prog_14_method_5_code
def yX12_end : MethodName := ⟨RX12, "end", "(I)Z"⟩
abbrev cX12_taken : ByteArray := prog_14_method_6_code
def yX12_taken : MethodName := ⟨RX12, "taken", "(I)V"⟩
abbrev cX12_isIn : ByteArray := prog_14_method_7_code
def yX12_isIn : MethodName := ⟨RX12, "isIn", "(III)Z"⟩
abbrev cX12_bitOf : ByteArray := prog_14_method_8_code
def yX12_bitOf : MethodName := ⟨RX12, "bitOf", "(II)Z"⟩
abbrev cX12_greater : ByteArray := prog_14_method_9_code
def yX12_greater : MethodName := ⟨RX12, "greater", "(II)I"⟩
abbrev cX12_bits : ByteArray := prog_14_method_10_code
def yX12_bits : MethodName := ⟨RX12, "bits", "(I)I"⟩
abbrev cX12_octet : ByteArray := prog_14_method_11_code
def yX12_octet : MethodName := ⟨RX12, "octet", "(I)I"⟩
abbrev cX12_init : ByteArray := prog_14_method_12_code
def yX12_init : MethodName := ⟨RX12, "<init>", "()V"⟩
abbrev cX12_clears : ByteArray := prog_14_method_13_code
def yX12_clears : MethodName := ⟨RX12, "clears", "()V"⟩
abbrev cX12_peek : ByteArray := prog_14_method_14_code
def yX12_peek : MethodName := ⟨RX12, "peek", "()I"⟩
abbrev cX12_isSmall : ByteArray := prog_14_method_15_code
def yX12_isSmall : MethodName := ⟨RX12, "isSmall", "(I)Z"⟩
abbrev cX12_isDigit : ByteArray := prog_14_method_16_code
def yX12_isDigit : MethodName := ⟨RX12, "isDigit", "(I)Z"⟩
abbrev cX12_next : ByteArray := prog_14_method_17_code
def yX12_next : MethodName := ⟨RX12, "next", "()V"⟩
abbrev cX12_bad : ByteArray := prog_14_method_18_code
def yX12_bad : MethodName := ⟨RX12, "bad", "(I)Z"⟩
abbrev cX12_isWord : ByteArray := prog_14_method_19_code
def yX12_isWord : MethodName := ⟨RX12, "isWord", "(J)Z"⟩
abbrev cX12_isSign : ByteArray := prog_14_method_20_code
def yX12_isSign : MethodName := ⟨RX12, "isSign", "(I)Z"⟩
abbrev cX12_sign : ByteArray := prog_14_method_21_code
def yX12_sign : MethodName := ⟨RX12, "sign", "(I)Z"⟩
abbrev cX12_isName : ByteArray := prog_14_method_22_code
def yX12_isName : MethodName := ⟨RX12, "isName", "()Z"⟩
abbrev cX12_takes : ByteArray := prog_14_method_23_code
def yX12_takes : MethodName := ⟨RX12, "takes", "(II)Z"⟩
abbrev cX12_puts : ByteArray := prog_14_method_24_code
def yX12_puts : MethodName := ⟨RX12, "puts", "(III)Z"⟩
abbrev cX12_seek : ByteArray := prog_14_method_25_code
def yX12_seek : MethodName := ⟨RX12, "seek", "(II)I"⟩
abbrev cX12_fresh : ByteArray := prog_14_method_26_code
def yX12_fresh : MethodName := ⟨RX12, "fresh", "(I)Z"⟩
abbrev cX12_looksAt : ByteArray := prog_14_method_27_code
def yX12_looksAt : MethodName := ⟨RX12, "looksAt", "(II)Z"⟩
abbrev cX12_takesName : ByteArray := prog_14_method_28_code
def yX12_takesName : MethodName := ⟨RX12, "takesName", "(II)Z"⟩
abbrev cX12_once : ByteArray := prog_14_method_29_code
def yX12_once : MethodName := ⟨RX12, "once", "(I)Z"⟩
abbrev cX12_readLine : ByteArray := prog_14_method_30_code
def yX12_readLine : MethodName := ⟨RX12, "readLine", "()Z"⟩
abbrev cX12_readHouse : ByteArray := prog_14_method_31_code
def yX12_readHouse : MethodName := ⟨RX12, "readHouse", "()Z"⟩
abbrev cX12_wayWord : ByteArray := prog_14_method_32_code
def yX12_wayWord : MethodName := ⟨RX12, "wayWord", "()I"⟩
abbrev cX12_takesWay : ByteArray := prog_14_method_33_code
def yX12_takesWay : MethodName := ⟨RX12, "takesWay", "()Z"⟩
abbrev cX12_readPerson : ByteArray := prog_14_method_34_code
def yX12_readPerson : MethodName := ⟨RX12, "readPerson", "()Z"⟩
abbrev cX12_knowsIn : ByteArray := prog_14_method_35_code
def yX12_knowsIn : MethodName := ⟨RX12, "knowsIn", "([IIII)V"⟩
abbrev cX12_readKnows : ByteArray := prog_14_method_36_code
def yX12_readKnows : MethodName := ⟨RX12, "readKnows", "()Z"⟩
abbrev cX12_readCalls : ByteArray := prog_14_method_37_code
def yX12_readCalls : MethodName := ⟨RX12, "readCalls", "()Z"⟩
abbrev cX12_quarter : ByteArray := prog_14_method_38_code
def yX12_quarter : MethodName := ⟨RX12, "quarter", "()I"⟩
abbrev cX12_fault : ByteArray := prog_14_method_39_code
def yX12_fault : MethodName := ⟨RX12, "fault", "()I"⟩
abbrev cX12_isHouse : ByteArray := prog_14_method_40_code
def yX12_isHouse : MethodName := ⟨RX12, "isHouse", "(I)Z"⟩
abbrev cX12_isPerson : ByteArray := prog_14_method_41_code
def yX12_isPerson : MethodName := ⟨RX12, "isPerson", "(I)Z"⟩
abbrev cX12_dwellers : ByteArray := prog_14_method_42_code
def yX12_dwellers : MethodName := ⟨RX12, "dwellers", "(I)I"⟩
abbrev cX12_isStranger : ByteArray := prog_14_method_43_code
def yX12_isStranger : MethodName := ⟨RX12, "isStranger", "(II)Z"⟩
abbrev cX12_strangers : ByteArray := prog_14_method_44_code
def yX12_strangers : MethodName := ⟨RX12, "strangers", "(I)I"⟩
abbrev cX12_are : ByteArray := prog_14_method_45_code
def yX12_are : MethodName := ⟨RX12, "are", "(I)I"⟩
abbrev cX12_areAt : ByteArray := prog_14_method_46_code
def yX12_areAt : MethodName := ⟨RX12, "areAt", "(II)I"⟩
abbrev cX12_openHouses : ByteArray := prog_14_method_47_code
def yX12_openHouses : MethodName := ⟨RX12, "openHouses", "()I"⟩
abbrev cX12_callOf : ByteArray := prog_14_method_48_code
def yX12_callOf : MethodName := ⟨RX12, "callOf", "(II)I"⟩
abbrev cX12_house : ByteArray := prog_14_method_49_code
def yX12_house : MethodName := ⟨RX12, "house", "(II)I"⟩
abbrev cX12_person : ByteArray := prog_14_method_50_code
def yX12_person : MethodName := ⟨RX12, "person", "(II)I"⟩
abbrev cX12_call : ByteArray := prog_14_method_51_code
def yX12_call : MethodName := ⟨RX12, "call", "(II)I"⟩
abbrev cX12_now : ByteArray := prog_14_method_52_code
def yX12_now : MethodName := ⟨RX12, "now", "(I)I"⟩
abbrev cX12_whyKnock : ByteArray := prog_14_method_53_code
def yX12_whyKnock : MethodName := ⟨RX12, "whyKnock", "(II)I"⟩
abbrev cX12_whyGo : ByteArray := prog_14_method_54_code
def yX12_whyGo : MethodName := ⟨RX12, "whyGo", "(II)I"⟩
abbrev cX12_whyCall : ByteArray := prog_14_method_55_code
def yX12_whyCall : MethodName := ⟨RX12, "whyCall", "(II)I"⟩
abbrev cX12_stands : ByteArray := prog_14_method_56_code
def yX12_stands : MethodName := ⟨RX12, "stands", "(III)V"⟩
abbrev cX12_books : ByteArray := prog_14_method_57_code
def yX12_books : MethodName := ⟨RX12, "books", "(II)V"⟩
abbrev cX12_strikes : ByteArray := prog_14_method_58_code
def yX12_strikes : MethodName := ⟨RX12, "strikes", "(I)V"⟩
abbrev cX12_walks : ByteArray := prog_14_method_59_code
def yX12_walks : MethodName := ⟨RX12, "walks", "(I)V"⟩
abbrev cX12_canAnswer : ByteArray := prog_14_method_60_code
def yX12_canAnswer : MethodName := ⟨RX12, "canAnswer", "(II)Z"⟩
abbrev cX12_answers : ByteArray := prog_14_method_61_code
def yX12_answers : MethodName := ⟨RX12, "answers", "(II)I"⟩
abbrev cX12_opens0 : ByteArray := prog_14_method_62_code
def yX12_opens0 : MethodName := ⟨RX12, "opens0", "(II)V"⟩
abbrev cX12_tick : ByteArray := prog_14_method_63_code
def yX12_tick : MethodName := ⟨RX12, "tick", "()V"⟩
abbrev cX12_goesOn : ByteArray := prog_14_method_64_code
def yX12_goesOn : MethodName := ⟨RX12, "goesOn", "(I)I"⟩
abbrev cX12_knock : ByteArray := prog_14_method_65_code
def yX12_knock : MethodName := ⟨RX12, "knock", "(II)I"⟩
abbrev cX12_go : ByteArray := prog_14_method_66_code
def yX12_go : MethodName := ⟨RX12, "go", "(II)I"⟩
abbrev cX12_quit : ByteArray := prog_14_method_67_code
def yX12_quit : MethodName := ⟨RX12, "quit", "(I)I"⟩
abbrev cX12_meets : ByteArray := prog_14_method_68_code
def yX12_meets : MethodName := ⟨RX12, "meets", "(II)I"⟩
abbrev cX12_calls : ByteArray := prog_14_method_69_code
def yX12_calls : MethodName := ⟨RX12, "calls", "(II)I"⟩
abbrev cX12_ticks : ByteArray := prog_14_method_70_code
def yX12_ticks : MethodName := ⟨RX12, "ticks", "(I)I"⟩
abbrev cX12_stores : ByteArray := prog_14_method_71_code
def yX12_stores : MethodName := ⟨RX12, "stores", "()V"⟩
abbrev cX12_undo : ByteArray := prog_14_method_72_code
def yX12_undo : MethodName := ⟨RX12, "undo", "()I"⟩
abbrev cX12_tries : ByteArray := prog_14_method_73_code
def yX12_tries : MethodName := ⟨RX12, "tries", "()V"⟩
abbrev cX12_brings : ByteArray := prog_14_method_74_code
def yX12_brings : MethodName := ⟨RX12, "brings", "()V"⟩
abbrev cX12_answer : ByteArray := prog_14_method_75_code
def yX12_answer : MethodName := ⟨RX12, "answer", "(I)I"⟩
abbrev cX12_areAnswered : ByteArray := prog_14_method_76_code
def yX12_areAnswered : MethodName := ⟨RX12, "areAnswered", "(I)Z"⟩
abbrev cX12_most : ByteArray := prog_14_method_77_code
def yX12_most : MethodName := ⟨RX12, "most", "()I"⟩
abbrev cX12_those : ByteArray := prog_14_method_78_code
def yX12_those : MethodName := ⟨RX12, "those", "()I"⟩
abbrev cX12_chain : ByteArray := prog_14_method_79_code
def yX12_chain : MethodName := ⟨RX12, "chain", "(II)I"⟩
abbrev cX12_chainAt : ByteArray := prog_14_method_80_code
def yX12_chainAt : MethodName := ⟨RX12, "chainAt", "(I)I"⟩
abbrev cX12_isMeant : ByteArray := prog_14_method_81_code
def yX12_isMeant : MethodName := ⟨RX12, "isMeant", "(I)Z"⟩
abbrev cX12_leftBy : ByteArray := prog_14_method_82_code
def yX12_leftBy : MethodName := ⟨RX12, "leftBy", "(II)I"⟩
abbrev cX12_who : ByteArray := prog_14_method_83_code
def yX12_who : MethodName := ⟨RX12, "who", "()I"⟩
abbrev cX12_ask : ByteArray := prog_14_method_84_code
def yX12_ask : MethodName := ⟨RX12, "ask", "()I"⟩
abbrev cX12_opens : ByteArray := prog_14_method_85_code
def yX12_opens : MethodName := ⟨RX12, "opens", "(I)I"⟩
abbrev cX12_known : ByteArray := prog_14_method_86_code
def yX12_known : MethodName := ⟨RX12, "known", "()I"⟩
abbrev cX12_meet : ByteArray := prog_14_method_87_code
def yX12_meet : MethodName := ⟨RX12, "meet", "(II)I"⟩
abbrev cX12_busiest : ByteArray := prog_14_method_88_code
def yX12_busiest : MethodName := ⟨RX12, "busiest", "()I"⟩
abbrev cX12_mean : ByteArray := prog_14_method_89_code
def yX12_mean : MethodName := ⟨RX12, "mean", "(I)I"⟩
abbrev cX12_lays : ByteArray := prog_14_method_90_code
def yX12_lays : MethodName := ⟨RX12, "lays", "(I)V"⟩
abbrev cX12_spells : ByteArray := prog_14_method_91_code
def yX12_spells : MethodName := ⟨RX12, "spells", "(J)V"⟩
abbrev cX12_says : ByteArray := prog_14_method_92_code
def yX12_says : MethodName := ⟨RX12, "says", "(J)V"⟩
abbrev cX12_tag : ByteArray := prog_14_method_93_code
def yX12_tag : MethodName := ⟨RX12, "tag", "(I)I"⟩
abbrev cX12_byteAt : ByteArray := prog_14_method_94_code
def yX12_byteAt : MethodName := ⟨RX12, "byteAt", "(I)I"⟩
abbrev cX12_draw : ByteArray := prog_14_method_95_code
def yX12_draw : MethodName := ⟨RX12, "draw", "(I)I"⟩
abbrev cX12_drawPerson : ByteArray := prog_14_method_96_code
def yX12_drawPerson : MethodName := ⟨RX12, "drawPerson", "(I)V"⟩
abbrev cX12_draws : ByteArray := prog_14_method_97_code
def yX12_draws : MethodName := ⟨RX12, "draws", "(II)I"⟩
abbrev cX12_drawn : ByteArray := prog_14_method_98_code
def yX12_drawn : MethodName := ⟨RX12, "drawn", "(II)I"⟩
abbrev cX12_odds : ByteArray := prog_14_method_99_code
def yX12_odds : MethodName := ⟨RX12, "odds", "(III)I"⟩
abbrev cX12_bookLine : ByteArray := prog_14_method_100_code
def yX12_bookLine : MethodName := ⟨RX12, "bookLine", "()Z"⟩
abbrev cX12_does : ByteArray := prog_14_method_101_code
def yX12_does : MethodName := ⟨RX12, "does", "(III)I"⟩
abbrev cX12_book : ByteArray := prog_14_method_102_code
def yX12_book : MethodName := ⟨RX12, "book", "(I)I"⟩
abbrev cX12_told : ByteArray := prog_14_method_103_code
def yX12_told : MethodName := ⟨RX12, "told", "(I)I"⟩
abbrev cX12_code : ByteArray := prog_14_method_104_code
def yX12_code : MethodName := ⟨RX12, "code", "(III)V"⟩
abbrev cX12_joins : ByteArray := prog_14_method_105_code
def yX12_joins : MethodName := ⟨RX12, "joins", "(I)V"⟩
abbrev cX12_nots : ByteArray := prog_14_method_106_code
def yX12_nots : MethodName := ⟨RX12, "nots", "()V"⟩
abbrev cX12_leafOf : ByteArray := prog_14_method_107_code
def yX12_leafOf : MethodName := ⟨RX12, "leafOf", "()I"⟩
abbrev cX12_operand : ByteArray := prog_14_method_108_code
def yX12_operand : MethodName := ⟨RX12, "operand", "()Z"⟩
abbrev cX12_behind : ByteArray := prog_14_method_109_code
def yX12_behind : MethodName := ⟨RX12, "behind", "()Z"⟩
abbrev cX12_sentence : ByteArray := prog_14_method_110_code
def yX12_sentence : MethodName := ⟨RX12, "sentence", "()I"⟩
abbrev cX12_isLeaf : ByteArray := prog_14_method_111_code
def yX12_isLeaf : MethodName := ⟨RX12, "isLeaf", "(IIII)Z"⟩
abbrev cX12_isSaid : ByteArray := prog_14_method_112_code
def yX12_isSaid : MethodName := ⟨RX12, "isSaid", "(I)Z"⟩
abbrev cX12_said : ByteArray := prog_14_method_113_code
def yX12_said : MethodName := ⟨RX12, "said", "(I)I"⟩
abbrev cX12_image : ByteArray := prog_14_method_114_code
def yX12_image : MethodName := ⟨RX12, "image", "(I)Z"⟩
abbrev cX12_restore : ByteArray := prog_14_method_115_code
def yX12_restore : MethodName := ⟨RX12, "restore", "(I)Z"⟩
abbrev cX12_count : ByteArray := prog_14_method_116_code
def yX12_count : MethodName := ⟨RX12, "count", "(I)I"⟩
def RJx145de : String := "java/io/Serializable"
def TJx145de : u_T := fun k => match k with
  | _ => ("", "", "", false)
def tyJx145de : Nat → FieldType := fun k => match k with
  | _ => .int
theorem nmJx145de : ∀ a, a < 0 → ∀ b, b < 0 → a ≠ b → (TJx145de a).2.1 ≠ (TJx145de b).2.1 := by decide +kernel
theorem tyJx145de_ok : ∀ k, k < 0 → parseFieldDescriptor (TJx145de k).2.2.1 = some (tyJx145de k) := by decide +kernel
def RJx9f9b0 : String := "java/lang/CharSequence"
def TJx9f9b0 : u_T := fun k => match k with
  | _ => ("", "", "", false)
def tyJx9f9b0 : Nat → FieldType := fun k => match k with
  | _ => .int
theorem nmJx9f9b0 : ∀ a, a < 0 → ∀ b, b < 0 → a ≠ b → (TJx9f9b0 a).2.1 ≠ (TJx9f9b0 b).2.1 := by decide +kernel
theorem tyJx9f9b0_ok : ∀ k, k < 0 → parseFieldDescriptor (TJx9f9b0 k).2.2.1 = some (tyJx9f9b0 k) := by decide +kernel
def RJxb160c : String := "java/lang/Comparable"
def TJxb160c : u_T := fun k => match k with
  | _ => ("", "", "", false)
def tyJxb160c : Nat → FieldType := fun k => match k with
  | _ => .int
theorem nmJxb160c : ∀ a, a < 0 → ∀ b, b < 0 → a ≠ b → (TJxb160c a).2.1 ≠ (TJxb160c b).2.1 := by decide +kernel
theorem tyJxb160c_ok : ∀ k, k < 0 → parseFieldDescriptor (TJxb160c k).2.2.1 = some (tyJxb160c k) := by decide +kernel
def RJ6 : String := "java/lang/Integer"
def TJ6 : u_T := fun k => match k with
  | _ => ("", "", "", false)
def tyJ6 : Nat → FieldType := fun k => match k with
  | _ => .int
theorem nmJ6 : ∀ a, a < 0 → ∀ b, b < 0 → a ≠ b → (TJ6 a).2.1 ≠ (TJ6 b).2.1 := by decide +kernel
theorem tyJ6_ok : ∀ k, k < 0 → parseFieldDescriptor (TJ6 k).2.2.1 = some (tyJ6 k) := by decide +kernel
abbrev cJ6_bitCount_0f7a4 : ByteArray := prog_19_method_49_code
def yJ6_bitCount_0f7a4 : MethodName := ⟨RJ6, "bitCount", "(I)I"⟩
def RJ9 : String := "java/lang/Math"
def TJ9 : u_T := fun k => match k with
  | _ => ("", "", "", false)
def tyJ9 : Nat → FieldType := fun k => match k with
  | _ => .int
theorem nmJ9 : ∀ a, a < 0 → ∀ b, b < 0 → a ≠ b → (TJ9 a).2.1 ≠ (TJ9 b).2.1 := by decide +kernel
theorem tyJ9_ok : ∀ k, k < 0 → parseFieldDescriptor (TJ9 k).2.2.1 = some (tyJ9 k) := by decide +kernel
abbrev cJ9_abs_0f7a4 : ByteArray := prog_20_method_59_code
def yJ9_abs_0f7a4 : MethodName := ⟨RJ9, "abs", "(I)I"⟩
abbrev cJ9_max_7cf53 : ByteArray := prog_20_method_65_code
def yJ9_max_7cf53 : MethodName := ⟨RJ9, "max", "(II)I"⟩
abbrev cJ9_min_7cf53 : ByteArray := prog_20_method_69_code
def yJ9_min_7cf53 : MethodName := ⟨RJ9, "min", "(II)I"⟩
def RJ0 : String := "java/lang/String"
def TJ0 : u_T := fun k => match k with
  | _ => ("", "", "", false)
def tyJ0 : Nat → FieldType := fun k => match k with
  | _ => .int
theorem nmJ0 : ∀ a, a < 0 → ∀ b, b < 0 → a ≠ b → (TJ0 a).2.1 ≠ (TJ0 b).2.1 := by decide +kernel
theorem tyJ0_ok : ∀ k, k < 0 → parseFieldDescriptor (TJ0 k).2.2.1 = some (tyJ0 k) := by decide +kernel
abbrev cJ0_length_8abf5 : ByteArray := prog_22_method_54_code
def yJ0_length_8abf5 : MethodName := ⟨RJ0, "length", "()I"⟩
abbrev cJ0_charAt_5068e : ByteArray := prog_22_method_56_code
def yJ0_charAt_5068e : MethodName := ⟨RJ0, "charAt", "(I)C"⟩
abbrev cJ0_coder_7d493 : ByteArray := prog_22_method_152_code
def yJ0_coder_7d493 : MethodName := ⟨RJ0, "coder", "()B"⟩
abbrev cJ0_isLatin1_aae02 : ByteArray := prog_22_method_154_code
def yJ0_isLatin1_aae02 : MethodName := ⟨RJ0, "isLatin1", "()Z"⟩
abbrev cJ0_checkIndex_df160 : ByteArray := prog_22_method_155_code
def yJ0_checkIndex_df160 : MethodName := ⟨RJ0, "checkIndex", "(II)V"⟩
def RJ1 : String := "java/lang/StringLatin1"
def TJ1 : u_T := fun k => match k with
  | _ => ("", "", "", false)
def tyJ1 : Nat → FieldType := fun k => match k with
  | _ => .int
theorem nmJ1 : ∀ a, a < 0 → ∀ b, b < 0 → a ≠ b → (TJ1 a).2.1 ≠ (TJ1 b).2.1 := by decide +kernel
theorem tyJ1_ok : ∀ k, k < 0 → parseFieldDescriptor (TJ1 k).2.2.1 = some (tyJ1 k) := by decide +kernel
abbrev cJ1_charAt_3b067 : ByteArray := prog_23_method_2_code
def yJ1_charAt_3b067 : MethodName := ⟨RJ1, "charAt", "([BI)C"⟩
def RJ2 : String := "java/lang/StringUTF16"
def TJ2 : u_T := fun k => match k with
  | _ => ("", "", "", false)
def tyJ2 : Nat → FieldType := fun k => match k with
  | _ => .int
theorem nmJ2 : ∀ a, a < 0 → ∀ b, b < 0 → a ≠ b → (TJ2 a).2.1 ≠ (TJ2 b).2.1 := by decide +kernel
theorem tyJ2_ok : ∀ k, k < 0 → parseFieldDescriptor (TJ2 k).2.2.1 = some (tyJ2 k) := by decide +kernel
abbrev cJ2_getChar_3b067 : ByteArray := prog_24_method_5_code
def yJ2_getChar_3b067 : MethodName := ⟨RJ2, "getChar", "([BI)C"⟩
abbrev cJ2_length_9d52b : ByteArray := prog_24_method_6_code
def yJ2_length_9d52b : MethodName := ⟨RJ2, "length", "([B)I"⟩
abbrev cJ2_charAt_3b067 : ByteArray := prog_24_method_83_code
def yJ2_charAt_3b067 : MethodName := ⟨RJ2, "charAt", "([BI)C"⟩
abbrev cJ2_checkIndex_2214a : ByteArray := prog_24_method_91_code
def yJ2_checkIndex_2214a : MethodName := ⟨RJ2, "checkIndex", "(I[B)V"⟩
def RJ10 : String := "java/lang/System"
def TJ10 : u_T := fun k => match k with
  | _ => ("", "", "", false)
def tyJ10 : Nat → FieldType := fun k => match k with
  | _ => .int
theorem nmJ10 : ∀ a, a < 0 → ∀ b, b < 0 → a ≠ b → (TJ10 a).2.1 ≠ (TJ10 b).2.1 := by decide +kernel
theorem tyJ10_ok : ∀ k, k < 0 → parseFieldDescriptor (TJ10 k).2.2.1 = some (tyJ10 k) := by decide +kernel
def RJxfd54e : String := "java/lang/constant/Constable"
def TJxfd54e : u_T := fun k => match k with
  | _ => ("", "", "", false)
def tyJxfd54e : Nat → FieldType := fun k => match k with
  | _ => .int
theorem nmJxfd54e : ∀ a, a < 0 → ∀ b, b < 0 → a ≠ b → (TJxfd54e a).2.1 ≠ (TJxfd54e b).2.1 := by decide +kernel
theorem tyJxfd54e_ok : ∀ k, k < 0 → parseFieldDescriptor (TJxfd54e k).2.2.1 = some (tyJxfd54e k) := by decide +kernel
def RJx3cf43 : String := "java/lang/constant/ConstantDesc"
def TJx3cf43 : u_T := fun k => match k with
  | _ => ("", "", "", false)
def tyJx3cf43 : Nat → FieldType := fun k => match k with
  | _ => .int
theorem nmJx3cf43 : ∀ a, a < 0 → ∀ b, b < 0 → a ≠ b → (TJx3cf43 a).2.1 ≠ (TJx3cf43 b).2.1 := by decide +kernel
theorem tyJx3cf43_ok : ∀ k, k < 0 → parseFieldDescriptor (TJx3cf43 k).2.2.1 = some (tyJx3cf43 k) := by decide +kernel
def RJ3 : String := "jdk/internal/util/Preconditions"
def TJ3 : u_T := fun k => match k with
  | _ => ("", "", "", false)
def tyJ3 : Nat → FieldType := fun k => match k with
  | _ => .int
theorem nmJ3 : ∀ a, a < 0 → ∀ b, b < 0 → a ≠ b → (TJ3 a).2.1 ≠ (TJ3 b).2.1 := by decide +kernel
theorem tyJ3_ok : ∀ k, k < 0 → parseFieldDescriptor (TJ3 k).2.2.1 = some (tyJ3 k) := by decide +kernel
abbrev cJ3_checkIndex_8e157 : ByteArray := prog_30_method_11_code
def yJ3_checkIndex_8e157 : MethodName := ⟨RJ3, "checkIndex", "(IILjava/util/function/BiFunction;)I"⟩
def RL : String := "KnockLaneLaw"
abbrev cL_person : ByteArray := method_3_code
def yL_person : MethodName := ⟨RL, "person", "(LKnockLane;II[J)I"⟩
abbrev cL_mean : ByteArray := method_4_code
def yL_mean : MethodName := ⟨RL, "mean", "(LKnockLane;I[J)I"⟩
abbrev cL_law : ByteArray := code
def yL_law : MethodName := ⟨RL, "law", "([I)Z"⟩
abbrev vwCl : List vw_C := [(RX0, TX0, 11), (RX1, TX1, 3), (RX2, TX2, 3), (RX3, TX3, 2), (RX4, TX4, 3), (RX5, TX5, 11), (RX6, TX6, 6), (RX7, TX7, 7), (RX8, TX8, 15), (RX9, TX9, 4), (RX10, TX10, 11), (RX11, TX11, 15), (RX12, TX12, 48)]
